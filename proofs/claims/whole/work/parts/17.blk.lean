theorem ju_0_0 : am_ju 0 0 = aLD 0 1 :: OINI 3 92 :: aLD 0 1 :: iCONST 3 :: nARR 0 :: pF 2 0 9 93 :: aLD 0 1 :: bPUSH 8 :: nARR 0 :: pF 2 1 15 96 :: aLD 0 1 :: bPUSH 8 :: nARR 0 :: pF 2 2 18 99 :: aLD 0 1 :: bPUSH 8 :: nARR 0 :: pF 2 3 21 102 :: aLD 0 1 :: bPUSH 8 :: nARR 0 :: pF 2 4 24 105 :: aLD 0 1 :: bPUSH 8 :: nARR 0 :: pF 2 5 27 109 :: aLD 0 1 :: iCONST 0 :: pI 2 6 30 112 :: aLD 0 1 :: iCONST 0 :: pI 2 7 34 117 :: vRET :: [] := rfl
theorem ju_1_0 : am_ju 1 0 = aLD 0 1 :: OINI 3 144 :: aLD 0 1 :: bPUSH 20 :: nARR 0 :: pF 8 0 9 145 :: aLD 0 1 :: iCONST 0 :: pI 8 1 15 147 :: vRET :: [] := rfl
theorem ju_2_0 : am_ju 2 0 = aLD 0 1 :: OINI 3 163 :: aLD 0 1 :: iCONST 3 :: nARR 0 :: pF 3 0 9 164 :: aLD 0 1 :: iCONST 3 :: nARR 0 :: pF 3 1 15 167 :: aLD 0 1 :: iCONST 3 :: nARR 0 :: pF 3 2 18 170 :: aLD 0 1 :: bPUSH 8 :: nARR 0 :: pF 3 3 21 173 :: aLD 0 1 :: iCONST 0 :: pI 3 4 24 176 :: aLD 0 1 :: iCONST 1 :: pI 3 5 28 180 :: vRET :: [] := rfl
theorem ju_3_0 : am_ju 3 0 = aLD 0 1 :: OINI 3 200 :: aLD 0 1 :: bPUSH 8 :: ANEW 0 9 201 :: pF 5 0 11 204 :: aLD 0 1 :: iCONST 0 :: pI 5 1 17 205 :: aLD 0 1 :: iCONST 0 :: pI 5 2 21 206 :: iCONST 0 :: iST 1 1 :: am_ju 3 14 := rfl
theorem ju_3_14 : am_ju 3 14 = iLD 1 1 :: bPUSH 8 :: ICMP 3 26 :: aLD 0 1 :: gR 5 0 11 204 :: iLD 1 1 :: NEW 3 9 201 :: DUP :: CALL 2 1 5 24 203 :: aAST :: IINC 1 1 :: GOTO 14 :: am_ju 3 26 := rfl
theorem ju_3_26 : am_ju 3 26 = vRET :: [] := rfl
theorem ju_4_0 : am_ju 4 0 = aLD 0 1 :: OINI 3 86 :: aLD 0 1 :: NEW 2 9 87 :: DUP :: CALL 0 1 5 11 89 :: pF 9 0 12 216 :: aLD 0 1 :: NEW 8 18 139 :: DUP :: CALL 1 1 5 20 141 :: pF 9 1 21 220 :: aLD 0 1 :: NEW 3 25 158 :: DUP :: CALL 2 1 5 27 160 :: pF 9 2 28 223 :: aLD 0 1 :: NEW 5 32 195 :: DUP :: CALL 3 1 4 34 197 :: pF 9 3 35 226 :: vRET :: [] := rfl
theorem ju_5_0 : am_ju 5 0 = aLD 0 1 :: OINI 3 242 :: aLD 0 1 :: iCONST 0 :: pI 0 0 9 243 :: aLD 0 1 :: iCONST 0 :: pI 0 1 15 247 :: aLD 0 1 :: iCONST 0 :: pI 0 2 18 251 :: aLD 0 1 :: iCONST 0 :: pI 0 3 21 254 :: aLD 0 1 :: iCONST 0 :: pI 0 4 24 257 :: aLD 0 1 :: iCONST 0 :: pI 0 5 27 259 :: aLD 0 1 :: iCONST 0 :: pI 0 6 30 261 :: aLD 0 1 :: iCONST 0 :: pI 0 7 33 262 :: vRET :: [] := rfl
theorem ju_6_0 : am_ju 6 0 = aLD 0 1 :: OINI 3 285 :: aLD 0 1 :: bPUSH 100 :: nARR 0 :: pF 7 0 9 286 :: aLD 0 1 :: iCONST 0 :: pI 7 1 15 287 :: aLD 0 1 :: iCONST 0 :: pI 7 2 19 289 :: vRET :: [] := rfl
theorem ju_7_0 : am_ju 7 0 = aLD 0 1 :: OINI 3 307 :: aLD 0 1 :: bPUSH 24 :: nARR 1 :: pF 6 0 9 308 :: aLD 0 1 :: iCONST 1 :: pZ 6 1 15 310 :: aLD 0 1 :: iCONST 0 :: pI 6 2 19 312 :: aLD 0 1 :: iCONST 0 :: pI 6 3 23 314 :: vRET :: [] := rfl
theorem ju_8_0 : am_ju 8 0 = aLD 0 1 :: OINI 3 331 :: aLD 0 1 :: NEW 0 9 332 :: DUP :: CALL 5 1 5 11 333 :: pF 4 1 12 335 :: aLD 0 1 :: bPUSH 20 :: nARR 0 :: pF 4 2 18 336 :: aLD 0 1 :: bPUSH 20 :: nARR 0 :: pF 4 3 22 338 :: aLD 0 1 :: bPUSH 6 :: nARR 0 :: pF 4 4 25 339 :: aLD 0 1 :: iCONST 0 :: pI 4 5 28 340 :: aLD 0 1 :: sPUSH 192 :: nARR 0 :: pF 4 6 32 341 :: aLD 0 1 :: bPUSH 6 :: nARR 0 :: pF 4 7 35 342 :: aLD 0 1 :: bPUSH 6 :: nARR 0 :: pF 4 8 38 343 :: aLD 0 1 :: bPUSH 99 :: pI 4 9 41 344 :: aLD 0 1 :: aLD 1 1 :: pF 4 0 44 334 :: vRET :: [] := rfl
theorem ju_9_0 : am_ju 9 0 = aLD 0 1 :: OINI 3 372 :: aLD 0 1 :: bPUSH 6 :: nARR 0 :: pF 1 1 9 374 :: aLD 0 1 :: bPUSH 6 :: nARR 0 :: pF 1 2 15 375 :: aLD 0 1 :: iCONST 0 :: pI 1 3 18 376 :: aLD 0 1 :: bPUSH 64 :: nARR 0 :: pF 1 4 22 377 :: aLD 0 1 :: aLD 1 1 :: pF 1 0 25 373 :: vRET :: [] := rfl
theorem ju_10_0 : am_ju 10 0 = aLD 0 1 :: OINI 1 78 :: aLD 0 1 :: NEW 9 7 81 :: DUP :: CALL 4 1 5 9 83 :: pF 10 1 10 391 :: aLD 0 1 :: iCONST 0 :: pZ 10 2 16 392 :: aLD 0 1 :: NEW 0 20 237 :: DUP :: CALL 5 1 5 22 239 :: pF 10 5 23 395 :: aLD 0 1 :: NEW 7 27 280 :: DUP :: CALL 6 1 5 29 282 :: pF 10 6 30 396 :: aLD 0 1 :: NEW 8 34 297 :: DUP :: CALL 1 1 5 36 298 :: pF 10 7 37 397 :: aLD 0 1 :: NEW 2 41 299 :: DUP :: CALL 0 1 5 43 300 :: pF 10 8 44 398 :: aLD 0 1 :: bPUSH 8 :: nARR 0 :: pF 10 9 48 399 :: aLD 0 1 :: iCONST 4 :: ANEW 1 52 301 :: DUP :: iCONST 0 :: NEW 6 52 301 :: DUP :: CALL 7 1 5 54 304 :: aAST :: DUP :: iCONST 1 :: NEW 6 52 301 :: DUP :: CALL 7 1 5 54 304 :: aAST :: DUP :: iCONST 2 :: NEW 6 52 301 :: DUP :: CALL 7 1 5 54 304 :: aAST :: DUP :: iCONST 3 :: NEW 6 52 301 :: DUP :: CALL 7 1 5 54 304 :: aAST :: pF 10 10 55 400 :: NEW 9 7 81 :: DUP :: CALL 4 1 5 9 83 :: aST 1 1 :: aLD 0 1 :: aLD 1 1 :: pF 10 0 59 390 :: aLD 0 1 :: NEW 4 62 326 :: DUP :: aLD 1 1 :: CALL 8 2 4 64 328 :: pF 10 3 67 393 :: aLD 0 1 :: NEW 1 71 367 :: DUP :: aLD 1 1 :: CALL 9 2 4 73 369 :: pF 10 4 74 394 :: vRET :: [] := rfl
theorem ju_11_0 : am_ju 11 0 = aLD 0 1 :: OINI 1 1017 :: aLD 0 1 :: sPUSH 238 :: nARR 0 :: pF 11 0 7 1018 :: aLD 0 1 :: sPUSH 238 :: nARR 0 :: pF 11 1 13 1019 :: aLD 0 1 :: sPUSH 238 :: nARR 0 :: pF 11 2 16 1020 :: aLD 0 1 :: sPUSH 238 :: nARR 0 :: pF 11 3 19 1021 :: aLD 0 1 :: bPUSH 100 :: nARR 0 :: pF 11 5 22 1023 :: aLD 0 1 :: iCONST 4 :: nARR 0 :: pF 11 7 25 1025 :: aLD 0 1 :: iCONST 4 :: nARR 0 :: pF 11 8 28 1026 :: aLD 0 1 :: bPUSH 96 :: nARR 1 :: pF 11 9 31 1027 :: aLD 0 1 :: bPUSH 24 :: nARR 1 :: pF 11 10 35 1028 :: aLD 0 1 :: bPUSH 6 :: nARR 0 :: pF 11 16 38 1034 :: aLD 0 1 :: bPUSH 6 :: nARR 0 :: pF 11 17 41 1035 :: aLD 0 1 :: bPUSH 6 :: nARR 0 :: pF 11 18 44 1036 :: aLD 0 1 :: gR 11 0 7 1018 :: iCONST 4 :: iCONST 1 :: iAST :: iCONST 0 :: iST 1 1 :: am_ju 11 57 := rfl
theorem ju_11_57 : am_ju 11 57 = iLD 1 1 :: iCONST 4 :: ICMP 3 67 :: aLD 0 1 :: gR 11 7 25 1025 :: iLD 1 1 :: iCONST (-1) :: iAST :: IINC 1 1 :: GOTO 57 :: am_ju 11 67 := rfl
theorem ju_11_67 : am_ju 11 67 = vRET :: [] := rfl
theorem ju_12_0 : am_ju 12 0 = iLD 0 1 :: IFC 2 7 :: iLD 0 1 :: iLD 1 1 :: ICMP 3 7 :: iCONST 1 :: GOTO 8 :: am_ju 12 7 := rfl
theorem ju_12_7 : am_ju 12 7 = iCONST 0 :: am_ju 12 8 := rfl
theorem ju_12_8 : am_ju 12 8 = zRET :: [] := rfl
theorem ju_13_0 : am_ju 13 0 = iLD 1 1 :: iCONST 3 :: CALL 12 2 1 31 439 :: IFC 1 5 :: vRET :: am_ju 13 5 := rfl
theorem ju_13_5 : am_ju 13 5 = aLD 0 1 :: gR 3 0 9 164 :: iLD 1 1 :: iCONST 0 :: iAST :: aLD 0 1 :: gR 3 1 15 167 :: iLD 1 1 :: iCONST 0 :: iAST :: aLD 0 1 :: gR 3 2 18 170 :: iLD 1 1 :: iCONST 0 :: iAST :: vRET :: [] := rfl
theorem ju_14_0 : am_ju 14 0 = aLD 0 1 :: gI 2 6 30 112 :: iCONST 3 :: ICMP 2 5 :: vRET :: am_ju 14 5 := rfl
theorem ju_14_5 : am_ju 14 5 = aLD 0 1 :: gR 2 0 9 93 :: aLD 0 1 :: gI 2 6 30 112 :: iLD 1 1 :: iAST :: aLD 0 1 :: DUP :: gI 2 6 30 112 :: iCONST 1 :: iADD :: pI 2 6 30 112 :: vRET :: [] := rfl
theorem ju_15_0 : am_ju 15 0 = aLD 0 1 :: gR 9 2 28 223 :: aLD 0 1 :: gR 9 0 12 216 :: gI 2 6 39 113 :: CALL 13 2 2 43 435 :: aLD 0 1 :: gR 9 0 12 216 :: iLD 1 1 :: CALL 14 2 2 47 440 :: aLD 0 1 :: gR 9 3 35 226 :: iCONST 0 :: pI 5 2 50 207 :: vRET :: [] := rfl
theorem ju_16_0 : am_ju 16 0 = iLD 1 1 :: iCONST 4 :: CALL 12 2 0 78 428 :: IFC 1 6 :: iCONST (-1) :: iRET :: am_ju 16 6 := rfl
theorem ju_16_6 : am_ju 16 6 = aLD 0 1 :: gR 10 0 59 390 :: gR 9 0 82 217 :: gI 2 6 85 114 :: iCONST 3 :: ICMP 2 14 :: bPUSH (-3) :: iRET :: am_ju 16 14 := rfl
theorem ju_16_14 : am_ju 16 14 = aLD 0 1 :: gR 10 0 59 390 :: iLD 1 1 :: CALL 15 2 2 89 431 :: aLD 0 1 :: gR 10 0 59 390 :: gR 9 0 82 217 :: gI 2 6 85 114 :: iCONST 1 :: iSUB :: iRET :: [] := rfl
theorem ju_17_0 : am_ju 17 0 = iLD 0 1 :: iLD 1 1 :: ICMP 2 8 :: iLD 0 1 :: iLD 2 1 :: ICMP 4 8 :: iCONST 1 :: GOTO 9 :: am_ju 17 8 := rfl
theorem ju_17_8 : am_ju 17 8 = iCONST 0 :: am_ju 17 9 := rfl
theorem ju_17_9 : am_ju 17 9 = zRET :: [] := rfl
theorem ju_18_0 : am_ju 18 0 = bPUSH 6 :: iCONST 4 :: iLD 0 1 :: iMUL :: iADD :: iRET :: [] := rfl
theorem ju_19_0 : am_ju 19 0 = aLD 0 1 :: iCONST 0 :: iALD :: CALL 18 1 0 51 1086 :: iST 2 1 :: aLD 0 1 :: iLD 2 1 :: iCONST 0 :: iADD :: iLD 1 1 :: iAST :: aLD 0 1 :: iLD 2 1 :: iCONST 1 :: iADD :: iCONST 0 :: iAST :: aLD 0 1 :: iLD 2 1 :: iCONST 2 :: iADD :: iCONST 0 :: iAST :: aLD 0 1 :: iLD 2 1 :: iCONST 3 :: iADD :: iCONST 0 :: iAST :: aLD 0 1 :: iCONST 0 :: DUP2 :: iALD :: iCONST 1 :: iADD :: iAST :: aLD 0 1 :: iCONST 5 :: iCONST 0 :: iAST :: vRET :: [] := rfl
theorem ju_20_0 : am_ju 20 0 = iLD 1 1 :: iCONST 0 :: iCONST 3 :: CALL 17 3 0 47 1080 :: IFC 1 7 :: iCONST (-1) :: iRET :: am_ju 20 7 := rfl
theorem ju_20_7 : am_ju 20 7 = aLD 0 1 :: gR 11 0 7 1018 :: iCONST 0 :: iALD :: iCONST 3 :: ICMP 1 15 :: bPUSH (-3) :: iRET :: am_ju 20 15 := rfl
theorem ju_20_15 : am_ju 20 15 = aLD 0 1 :: gR 11 0 7 1018 :: iLD 1 1 :: CALL 19 2 0 55 1083 :: aLD 0 1 :: gR 11 0 7 1018 :: iCONST 0 :: iALD :: iCONST 1 :: iSUB :: iRET :: [] := rfl
theorem ju_21_0 : am_ju 21 0 = iLD 1 1 :: bPUSH 8 :: CALL 12 2 1 31 439 :: IFC 1 6 :: iCONST (-1) :: iRET :: am_ju 21 6 := rfl
theorem ju_21_6 : am_ju 21 6 = aLD 0 1 :: gR 3 3 21 173 :: iLD 1 1 :: iALD :: iST 3 1 :: aLD 0 1 :: gR 3 3 21 173 :: iLD 1 1 :: iLD 2 1 :: iAST :: iLD 3 1 :: iRET :: [] := rfl
theorem ju_22_0 : am_ju 22 0 = aLD 0 1 :: gI 2 7 34 117 :: bPUSH 8 :: ICMP 2 5 :: vRET :: am_ju 22 5 := rfl
theorem ju_22_5 : am_ju 22 5 = aLD 0 1 :: gR 2 1 15 96 :: aLD 0 1 :: gI 2 7 34 117 :: iLD 1 1 :: iAST :: aLD 0 1 :: gR 2 2 18 99 :: aLD 0 1 :: gI 2 7 34 117 :: iLD 2 1 :: iAST :: aLD 0 1 :: gR 2 3 21 102 :: aLD 0 1 :: gI 2 7 34 117 :: iLD 3 1 :: iAST :: aLD 0 1 :: gR 2 4 24 105 :: aLD 0 1 :: gI 2 7 34 117 :: iLD 4 0 :: iAST :: aLD 0 1 :: gR 2 5 27 109 :: aLD 0 1 :: gI 2 7 34 117 :: iLD 5 0 :: iAST :: aLD 0 1 :: DUP :: gI 2 7 34 117 :: iCONST 1 :: iADD :: pI 2 7 34 117 :: vRET :: [] := rfl
theorem ju_23_0 : am_ju 23 0 = aLD 0 1 :: gR 9 2 28 223 :: aLD 0 1 :: gR 9 0 12 216 :: gI 2 7 53 118 :: iCONST 3 :: CALL 21 3 2 56 452 :: POP :: aLD 0 1 :: gR 9 0 12 216 :: iLD 1 1 :: iLD 2 1 :: iLD 3 1 :: iLD 4 0 :: iLD 5 0 :: CALL 22 6 2 60 456 :: aLD 0 1 :: gR 9 3 35 226 :: iCONST 0 :: pI 5 2 50 207 :: vRET :: [] := rfl
theorem ju_24_0 : am_ju 24 0 = iLD 1 1 :: iCONST 1 :: ICMP 2 14 :: iLD 1 1 :: bPUSH 30 :: ICMP 4 14 :: iLD 2 1 :: bPUSH 6 :: CALL 12 2 0 78 428 :: IFC 0 14 :: iLD 3 1 :: bPUSH 6 :: CALL 12 2 0 78 428 :: IFC 1 16 :: am_ju 24 14 := rfl
theorem ju_24_14 : am_ju 24 14 = iCONST (-1) :: iRET :: am_ju 24 16 := rfl
theorem ju_24_16 : am_ju 24 16 = iLD 4 0 :: bPUSH 100 :: CALL 12 2 0 78 428 :: IFC 0 24 :: iLD 5 0 :: iCONST 2 :: CALL 12 2 0 78 428 :: IFC 1 26 :: am_ju 24 24 := rfl
theorem ju_24_24 : am_ju 24 24 = iCONST (-1) :: iRET :: am_ju 24 26 := rfl
theorem ju_24_26 : am_ju 24 26 = aLD 0 1 :: gR 10 0 59 390 :: gR 9 0 82 217 :: gI 2 7 93 119 :: bPUSH 8 :: ICMP 2 34 :: bPUSH (-3) :: iRET :: am_ju 24 34 := rfl
theorem ju_24_34 : am_ju 24 34 = aLD 0 1 :: gR 10 0 59 390 :: iLD 1 1 :: iLD 2 1 :: iLD 3 1 :: iLD 4 0 :: iLD 5 0 :: CALL 23 6 2 96 448 :: aLD 0 1 :: gR 10 0 59 390 :: gR 9 0 82 217 :: gI 2 7 93 119 :: iCONST 1 :: iSUB :: iRET :: [] := rfl
theorem ju_25_0 : am_ju 25 0 = bPUSH 18 :: bPUSH 6 :: iLD 0 1 :: iMUL :: iADD :: iRET :: [] := rfl
set_option maxRecDepth 100000 in
theorem ju_26_0 : am_ju 26 0 = iLD 1 1 :: iCONST 1 :: bPUSH 30 :: CALL 17 3 0 47 1080 :: IFC 0 25 :: iLD 2 1 :: iCONST 0 :: iCONST 5 :: CALL 17 3 0 47 1080 :: IFC 0 25 :: iLD 3 1 :: iCONST 0 :: iCONST 5 :: CALL 17 3 0 47 1080 :: IFC 0 25 :: iLD 4 0 :: iCONST 0 :: bPUSH 99 :: CALL 17 3 0 47 1080 :: IFC 0 25 :: iLD 5 0 :: iCONST 0 :: iCONST 1 :: CALL 17 3 0 47 1080 :: IFC 1 27 :: am_ju 26 25 := rfl
set_option maxRecDepth 100000 in
theorem ju_26_25 : am_ju 26 25 = iCONST (-1) :: iRET :: am_ju 26 27 := rfl
set_option maxRecDepth 100000 in
theorem ju_26_27 : am_ju 26 27 = aLD 0 1 :: gR 11 0 7 1018 :: iCONST 1 :: iALD :: bPUSH 8 :: ICMP 1 35 :: bPUSH (-3) :: iRET :: am_ju 26 35 := rfl
set_option maxRecDepth 100000 in
theorem ju_26_35 : am_ju 26 35 = aLD 0 1 :: gR 11 0 7 1018 :: iCONST 1 :: iALD :: CALL 25 1 0 59 1093 :: iST 6 0 :: aLD 0 1 :: gR 11 0 7 1018 :: iLD 6 0 :: iCONST 0 :: iADD :: iLD 1 1 :: iAST :: aLD 0 1 :: gR 11 0 7 1018 :: iLD 6 0 :: iCONST 1 :: iADD :: iLD 2 1 :: iAST :: aLD 0 1 :: gR 11 0 7 1018 :: iLD 6 0 :: iCONST 2 :: iADD :: iLD 3 1 :: iAST :: aLD 0 1 :: gR 11 0 7 1018 :: iLD 6 0 :: iCONST 3 :: iADD :: iLD 4 0 :: iAST :: aLD 0 1 :: gR 11 0 7 1018 :: iLD 6 0 :: iCONST 4 :: iADD :: iLD 5 0 :: iAST :: aLD 0 1 :: gR 11 0 7 1018 :: iLD 6 0 :: iCONST 5 :: iADD :: iCONST 3 :: iAST :: aLD 0 1 :: gR 11 0 7 1018 :: iCONST 1 :: DUP2 :: iALD :: iCONST 1 :: iADD :: iAST :: aLD 0 1 :: gR 11 0 7 1018 :: iCONST 5 :: iCONST 0 :: iAST :: aLD 0 1 :: gR 11 0 7 1018 :: iCONST 1 :: iALD :: iCONST 1 :: iSUB :: iRET :: [] := rfl
theorem ju_27_0 : am_ju 27 0 = iLD 1 1 :: aLD 0 1 :: gI 2 7 34 117 :: CALL 12 2 1 37 468 :: zRET :: [] := rfl
theorem ju_28_0 : am_ju 28 0 = iLD 1 1 :: aLD 0 1 :: gI 2 6 30 112 :: CALL 12 2 1 37 468 :: zRET :: [] := rfl
theorem ju_29_0 : am_ju 29 0 = iLD 0 1 :: iLD 1 1 :: iSHR :: iCONST 1 :: iAND :: IFC 0 8 :: iCONST 1 :: GOTO 9 :: am_ju 29 8 := rfl
theorem ju_29_8 : am_ju 29 8 = iCONST 0 :: am_ju 29 9 := rfl
theorem ju_29_9 : am_ju 29 9 = zRET :: [] := rfl
theorem ju_30_0 : am_ju 30 0 = iLD 0 1 :: iCONST 0 :: CALL 29 2 0 354 476 :: IFC 1 9 :: iLD 0 1 :: bPUSH 6 :: iAND :: bPUSH 6 :: ICMP 1 11 :: am_ju 30 9 := rfl
theorem ju_30_9 : am_ju 30 9 = iCONST 1 :: GOTO 12 :: am_ju 30 11 := rfl
theorem ju_30_11 : am_ju 30 11 = iCONST 0 :: am_ju 30 12 := rfl
theorem ju_30_12 : am_ju 30 12 = zRET :: [] := rfl
theorem ju_31_0 : am_ju 31 0 = aLD 0 1 :: gR 10 0 59 390 :: gR 9 0 82 217 :: iLD 1 1 :: CALL 27 2 2 100 464 :: IFC 0 12 :: aLD 0 1 :: gR 10 0 59 390 :: gR 9 0 82 217 :: iLD 2 1 :: CALL 28 2 2 104 469 :: IFC 1 14 :: am_ju 31 12 := rfl
theorem ju_31_12 : am_ju 31 12 = iCONST (-1) :: iRET :: am_ju 31 14 := rfl
theorem ju_31_14 : am_ju 31 14 = aLD 0 1 :: gR 10 0 59 390 :: gR 9 2 107 225 :: gR 3 2 111 171 :: iLD 2 1 :: iALD :: CALL 30 1 0 116 473 :: IFC 0 24 :: bPUSH (-2) :: iRET :: am_ju 31 24 := rfl
theorem ju_31_24 : am_ju 31 24 = aLD 0 1 :: gR 10 0 59 390 :: gR 9 2 107 225 :: iLD 1 1 :: iLD 2 1 :: CALL 21 3 2 119 479 :: iRET :: [] := rfl
theorem ju_32_0 : am_ju 32 0 = iLD 1 1 :: iCONST 0 :: aLD 0 1 :: gR 11 0 7 1018 :: iCONST 1 :: iALD :: iCONST 1 :: iSUB :: CALL 17 3 0 47 1080 :: zRET :: [] := rfl
theorem ju_33_0 : am_ju 33 0 = iLD 1 1 :: iCONST 0 :: aLD 0 1 :: gR 11 0 7 1018 :: iCONST 0 :: iALD :: iCONST 1 :: iSUB :: CALL 17 3 0 47 1080 :: zRET :: [] := rfl
theorem ju_34_0 : am_ju 34 0 = iLD 0 1 :: iLD 1 1 :: iSHR :: iCONST 1 :: iAND :: iCONST 1 :: ICMP 1 9 :: iCONST 1 :: GOTO 10 :: am_ju 34 9 := rfl
theorem ju_34_9 : am_ju 34 9 = iCONST 0 :: am_ju 34 10 := rfl
theorem ju_34_10 : am_ju 34 10 = zRET :: [] := rfl
theorem ju_35_0 : am_ju 35 0 = aLD 0 1 :: gR 11 0 7 1018 :: iLD 1 1 :: CALL 18 1 0 51 1086 :: iCONST 3 :: iADD :: iALD :: iST 2 1 :: iLD 2 1 :: iCONST 0 :: CALL 34 2 0 62 1112 :: IFC 1 20 :: iLD 2 1 :: iCONST 1 :: CALL 34 2 0 62 1112 :: IFC 0 22 :: iLD 2 1 :: iCONST 2 :: CALL 34 2 0 62 1112 :: IFC 0 22 :: am_ju 35 20 := rfl
theorem ju_35_20 : am_ju 35 20 = iCONST 1 :: GOTO 23 :: am_ju 35 22 := rfl
theorem ju_35_22 : am_ju 35 22 = iCONST 0 :: am_ju 35 23 := rfl
theorem ju_35_23 : am_ju 35 23 = zRET :: [] := rfl
theorem ju_36_0 : am_ju 36 0 = aLD 0 1 :: iLD 1 1 :: CALL 32 2 2 66 1100 :: IFC 0 8 :: aLD 0 1 :: iLD 2 1 :: CALL 33 2 2 70 1104 :: IFC 1 10 :: am_ju 36 8 := rfl
theorem ju_36_8 : am_ju 36 8 = iCONST (-1) :: iRET :: am_ju 36 10 := rfl
theorem ju_36_10 : am_ju 36 10 = aLD 0 1 :: iLD 2 1 :: CALL 35 2 2 73 1108 :: IFC 0 16 :: bPUSH (-2) :: iRET :: am_ju 36 16 := rfl
theorem ju_36_16 : am_ju 36 16 = aLD 0 1 :: gR 11 0 7 1018 :: iLD 1 1 :: CALL 25 1 0 59 1093 :: iCONST 5 :: iADD :: iALD :: iST 3 1 :: aLD 0 1 :: gR 11 0 7 1018 :: iLD 1 1 :: CALL 25 1 0 59 1093 :: iCONST 5 :: iADD :: iLD 2 1 :: iAST :: iLD 3 1 :: iRET :: [] := rfl
theorem ju_37_0 : am_ju 37 0 = aLD 0 1 :: gR 10 0 59 390 :: gR 9 0 82 217 :: iLD 1 1 :: CALL 27 2 2 100 464 :: IFC 1 8 :: iCONST (-1) :: iRET :: am_ju 37 8 := rfl
theorem ju_37_8 : am_ju 37 8 = aLD 0 1 :: gR 10 0 59 390 :: gR 9 2 107 225 :: iLD 1 1 :: iCONST 3 :: CALL 21 3 2 119 479 :: iRET :: [] := rfl
theorem ju_38_0 : am_ju 38 0 = aLD 0 1 :: iLD 1 1 :: CALL 32 2 2 66 1100 :: IFC 1 6 :: iCONST (-1) :: iRET :: am_ju 38 6 := rfl
theorem ju_38_6 : am_ju 38 6 = aLD 0 1 :: gR 11 0 7 1018 :: iLD 1 1 :: CALL 25 1 0 59 1093 :: iCONST 5 :: iADD :: iALD :: iST 2 1 :: aLD 0 1 :: gR 11 0 7 1018 :: iLD 1 1 :: CALL 25 1 0 59 1093 :: iCONST 5 :: iADD :: iCONST 3 :: iAST :: iLD 2 1 :: iRET :: [] := rfl
theorem ju_39_0 : am_ju 39 0 = iCONST 0 :: iST 2 1 :: iCONST 0 :: iST 3 1 :: am_ju 39 4 := rfl
theorem ju_39_4 : am_ju 39 4 = iLD 3 1 :: aLD 0 1 :: gR 9 0 12 216 :: gI 2 7 53 118 :: ICMP 3 24 :: aLD 0 1 :: gR 9 2 28 223 :: gR 3 3 74 174 :: iLD 3 1 :: iALD :: iLD 1 1 :: ICMP 1 22 :: iLD 2 1 :: iCONST 1 :: iLD 3 1 :: iSHL :: iOR :: iST 2 1 :: am_ju 39 22 := rfl
theorem ju_39_22 : am_ju 39 22 = IINC 3 1 :: GOTO 4 :: am_ju 39 24 := rfl
theorem ju_39_24 : am_ju 39 24 = iLD 2 1 :: iRET :: [] := rfl
theorem ju_40_0 : am_ju 40 0 = iCONST 0 :: iST 2 1 :: iCONST 0 :: iST 3 1 :: am_ju 40 4 := rfl
theorem ju_40_4 : am_ju 40 4 = iLD 3 1 :: aLD 0 1 :: aLEN :: ICMP 3 20 :: iLD 1 1 :: iLD 3 1 :: CALL 29 2 0 354 476 :: IFC 0 18 :: iLD 2 1 :: aLD 0 1 :: iLD 3 1 :: iALD :: iADD :: iST 2 1 :: am_ju 40 18 := rfl
theorem ju_40_18 : am_ju 40 18 = IINC 3 1 :: GOTO 4 :: am_ju 40 20 := rfl
theorem ju_40_20 : am_ju 40 20 = iLD 2 1 :: iRET :: [] := rfl
theorem ju_41_0 : am_ju 41 0 = aLD 0 1 :: iLD 2 1 :: pI 0 4 24 257 :: aLD 0 1 :: aLD 1 1 :: gR 2 1 36 97 :: iLD 2 1 :: CALL 40 2 1 41 501 :: pI 0 5 27 259 :: aLD 0 1 :: aLD 1 1 :: gR 2 2 45 100 :: iLD 2 1 :: CALL 40 2 1 41 501 :: pI 0 6 30 261 :: aLD 0 1 :: aLD 1 1 :: gR 2 3 47 103 :: iLD 2 1 :: CALL 40 2 1 41 501 :: pI 0 7 33 262 :: vRET :: [] := rfl
theorem ju_42_0 : am_ju 42 0 = aLD 0 1 :: gR 9 0 12 216 :: iLD 2 1 :: CALL 28 2 2 120 496 :: IFC 1 6 :: vRET :: am_ju 42 6 := rfl
theorem ju_42_6 : am_ju 42 6 = aLD 1 1 :: aLD 0 1 :: gR 9 0 12 216 :: gR 2 0 123 95 :: iLD 2 1 :: iALD :: pI 0 0 126 246 :: aLD 1 1 :: aLD 0 1 :: gR 9 2 28 223 :: gR 3 0 130 166 :: iLD 2 1 :: iALD :: pI 0 1 133 249 :: aLD 1 1 :: aLD 0 1 :: gR 9 2 28 223 :: gR 3 1 135 169 :: iLD 2 1 :: iALD :: pI 0 2 138 253 :: aLD 1 1 :: aLD 0 1 :: gR 9 2 28 223 :: gR 3 2 114 172 :: iLD 2 1 :: iALD :: pI 0 3 140 256 :: aLD 1 1 :: aLD 0 1 :: gR 9 0 12 216 :: iLD 3 1 :: CALL 41 3 2 142 497 :: vRET :: [] := rfl
theorem ju_43_0 : am_ju 43 0 = aLD 0 1 :: gI 0 1 15 247 :: aLD 0 1 :: gI 0 2 18 251 :: iADD :: bPUSH 10 :: iDIV :: iRET :: [] := rfl
theorem ju_44_0 : am_ju 44 0 = aLD 0 1 :: gR 10 0 59 390 :: gR 9 0 82 217 :: iLD 1 1 :: CALL 28 2 2 104 469 :: IFC 1 8 :: iCONST (-1) :: iRET :: am_ju 44 8 := rfl
theorem ju_44_8 : am_ju 44 8 = aLD 0 1 :: gR 10 0 59 390 :: aLD 0 1 :: gR 10 5 23 395 :: iLD 1 1 :: aLD 0 1 :: gR 10 0 59 390 :: iLD 1 1 :: CALL 39 2 2 123 488 :: CALL 42 4 2 127 492 :: iLD 2 1 :: TSW [0, 6, 48, 20, 24, 28, 32, 36, 40, 44] :: am_ju 44 20 := rfl
theorem ju_44_20 : am_ju 44 20 = aLD 0 1 :: gR 10 5 23 395 :: gI 0 0 131 245 :: iRET :: am_ju 44 24 := rfl
theorem ju_44_24 : am_ju 44 24 = aLD 0 1 :: gR 10 5 23 395 :: gI 0 1 134 248 :: iRET :: am_ju 44 28 := rfl
theorem ju_44_28 : am_ju 44 28 = aLD 0 1 :: gR 10 5 23 395 :: gI 0 2 137 252 :: iRET :: am_ju 44 32 := rfl
theorem ju_44_32 : am_ju 44 32 = aLD 0 1 :: gR 10 5 23 395 :: gI 0 3 140 255 :: iRET :: am_ju 44 36 := rfl
theorem ju_44_36 : am_ju 44 36 = aLD 0 1 :: gR 10 5 23 395 :: gI 0 4 142 258 :: iRET :: am_ju 44 40 := rfl
theorem ju_44_40 : am_ju 44 40 = aLD 0 1 :: gR 10 5 23 395 :: gI 0 5 143 260 :: iRET :: am_ju 44 44 := rfl
theorem ju_44_44 : am_ju 44 44 = aLD 0 1 :: gR 10 5 23 395 :: CALL 43 1 2 146 504 :: iRET :: am_ju 44 48 := rfl
theorem ju_44_48 : am_ju 44 48 = iCONST (-1) :: iRET :: [] := rfl
theorem ju_45_0 : am_ju 45 0 = iCONST 0 :: iST 2 1 :: iCONST 0 :: iST 3 1 :: am_ju 45 4 := rfl
theorem ju_45_4 : am_ju 45 4 = iLD 3 1 :: aLD 0 1 :: iCONST 1 :: iALD :: ICMP 3 27 :: iLD 2 1 :: aLD 0 1 :: iLD 3 1 :: CALL 25 1 0 59 1093 :: iCONST 5 :: iADD :: iALD :: iLD 1 1 :: ICMP 1 22 :: iCONST 1 :: iLD 3 1 :: iSHL :: GOTO 23 :: am_ju 45 22 := rfl
theorem ju_45_22 : am_ju 45 22 = iCONST 0 :: am_ju 45 23 := rfl
theorem ju_45_23 : am_ju 45 23 = iOR :: iST 2 1 :: IINC 3 1 :: GOTO 4 :: am_ju 45 27 := rfl
theorem ju_45_27 : am_ju 45 27 = iLD 2 1 :: iRET :: [] := rfl
theorem ju_46_0 : am_ju 46 0 = iCONST 0 :: iST 3 1 :: iCONST 0 :: iST 4 0 :: am_ju 46 4 := rfl
theorem ju_46_4 : am_ju 46 4 = iLD 4 0 :: aLD 0 1 :: iCONST 1 :: iALD :: ICMP 3 30 :: iLD 3 1 :: aLD 0 1 :: iLD 4 0 :: CALL 25 1 0 59 1093 :: iCONST 5 :: iADD :: iALD :: iLD 1 1 :: ICMP 1 25 :: aLD 0 1 :: iLD 4 0 :: CALL 25 1 0 59 1093 :: iLD 2 1 :: iADD :: iALD :: GOTO 26 :: am_ju 46 25 := rfl
theorem ju_46_25 : am_ju 46 25 = iCONST 0 :: am_ju 46 26 := rfl
theorem ju_46_26 : am_ju 46 26 = iADD :: iST 3 1 :: IINC 4 1 :: GOTO 4 :: am_ju 46 30 := rfl
theorem ju_46_30 : am_ju 46 30 = iLD 3 1 :: iRET :: [] := rfl
theorem ju_47_0 : am_ju 47 0 = aLD 0 1 :: iLD 1 1 :: CALL 18 1 0 51 1086 :: iCONST 1 :: iADD :: iALD :: aLD 0 1 :: iLD 1 1 :: CALL 18 1 0 51 1086 :: iCONST 2 :: iADD :: iALD :: iADD :: bPUSH 10 :: iDIV :: iRET :: [] := rfl
theorem ju_48_0 : am_ju 48 0 = aLD 0 1 :: iLD 1 1 :: CALL 33 2 2 70 1104 :: IFC 0 9 :: iLD 2 1 :: iCONST 0 :: bPUSH 6 :: CALL 17 3 0 47 1080 :: IFC 1 11 :: am_ju 48 9 := rfl
theorem ju_48_9 : am_ju 48 9 = iCONST (-1) :: iRET :: am_ju 48 11 := rfl
theorem ju_48_11 : am_ju 48 11 = iLD 2 1 :: iCONST 4 :: ICMP 3 22 :: aLD 0 1 :: gR 11 0 7 1018 :: iLD 1 1 :: CALL 18 1 0 51 1086 :: iLD 2 1 :: iADD :: iALD :: GOTO 43 :: am_ju 48 22 := rfl
theorem ju_48_22 : am_ju 48 22 = iLD 2 1 :: iCONST 4 :: ICMP 1 30 :: aLD 0 1 :: gR 11 0 7 1018 :: iLD 1 1 :: CALL 45 2 0 76 1123 :: GOTO 43 :: am_ju 48 30 := rfl
theorem ju_48_30 : am_ju 48 30 = iLD 2 1 :: iCONST 5 :: ICMP 1 39 :: aLD 0 1 :: gR 11 0 7 1018 :: iLD 1 1 :: iCONST 0 :: CALL 46 3 0 80 1126 :: GOTO 43 :: am_ju 48 39 := rfl
theorem ju_48_39 : am_ju 48 39 = aLD 0 1 :: gR 11 0 7 1018 :: iLD 1 1 :: CALL 47 2 0 84 1129 :: am_ju 48 43 := rfl
theorem ju_48_43 : am_ju 48 43 = iRET :: [] := rfl
theorem ju_49_0 : am_ju 49 0 = iLD 1 1 :: IFC 1 12 :: bPUSH 90 :: aLD 0 1 :: gI 0 2 18 251 :: iSUB :: iCONST 2 :: aLD 0 1 :: gI 0 1 15 247 :: iMUL :: iSUB :: iRET :: am_ju 49 12 := rfl
theorem ju_49_12 : am_ju 49 12 = iLD 1 1 :: iCONST 3 :: ICMP 1 23 :: bPUSH 90 :: aLD 0 1 :: gI 0 2 18 251 :: iSUB :: aLD 0 1 :: gI 0 1 15 247 :: iSUB :: iRET :: am_ju 49 23 := rfl
theorem ju_49_23 : am_ju 49 23 = bPUSH 60 :: aLD 0 1 :: gI 0 2 18 251 :: iSUB :: aLD 0 1 :: gI 0 1 15 247 :: iSUB :: iRET :: [] := rfl
theorem ju_50_0 : am_ju 50 0 = iLD 1 1 :: iCONST 3 :: ICMP 1 5 :: bPUSH 50 :: GOTO 6 :: am_ju 50 5 := rfl
theorem ju_50_5 : am_ju 50 5 = bPUSH 70 :: am_ju 50 6 := rfl
theorem ju_50_6 : am_ju 50 6 = iCONST 2 :: aLD 0 1 :: gI 0 2 18 251 :: iMUL :: iSUB :: iRET :: [] := rfl
theorem ju_51_0 : am_ju 51 0 = aLD 0 1 :: gI 0 0 9 243 :: TSW [0, 2, 23, 3, 9, 17] :: am_ju 51 3 := rfl
theorem ju_51_3 : am_ju 51 3 = iCONST 0 :: aLD 0 1 :: iLD 1 1 :: CALL 49 2 2 49 516 :: MMAX 53 520 :: iRET :: am_ju 51 9 := rfl
theorem ju_51_9 : am_ju 51 9 = iCONST 0 :: aLD 0 1 :: iLD 1 1 :: CALL 49 2 2 49 516 :: bPUSH 40 :: iADD :: MMAX 53 520 :: iRET :: am_ju 51 17 := rfl
theorem ju_51_17 : am_ju 51 17 = iCONST 0 :: aLD 0 1 :: iLD 1 1 :: CALL 50 2 2 59 523 :: MMAX 53 520 :: iRET :: am_ju 51 23 := rfl
theorem ju_51_23 : am_ju 51 23 = iCONST 0 :: aLD 0 1 :: iLD 1 1 :: CALL 50 2 2 59 523 :: aLD 0 1 :: gI 0 2 18 251 :: iADD :: bPUSH 30 :: iADD :: MMAX 53 520 :: iRET :: [] := rfl
theorem ju_52_0 : am_ju 52 0 = aLD 0 1 :: gR 10 0 59 390 :: gR 9 0 82 217 :: iLD 1 1 :: CALL 28 2 2 104 469 :: IFC 0 10 :: iLD 2 1 :: iCONST 4 :: CALL 12 2 0 78 428 :: IFC 1 12 :: am_ju 52 10 := rfl
theorem ju_52_10 : am_ju 52 10 = iCONST (-1) :: iRET :: am_ju 52 12 := rfl
theorem ju_52_12 : am_ju 52 12 = aLD 0 1 :: gR 10 0 59 390 :: aLD 0 1 :: gR 10 5 23 395 :: iLD 1 1 :: aLD 0 1 :: gR 10 0 59 390 :: iLD 1 1 :: CALL 39 2 2 123 488 :: CALL 42 4 2 127 492 :: aLD 0 1 :: gR 10 5 23 395 :: iLD 2 1 :: CALL 51 2 2 150 512 :: iRET :: [] := rfl
set_option maxRecDepth 100000 in
theorem ju_53_0 : am_ju 53 0 = iLD 1 1 :: CALL 18 1 0 51 1086 :: iST 3 1 :: aLD 0 1 :: iLD 3 1 :: iCONST 0 :: iADD :: iALD :: iST 4 0 :: iLD 4 0 :: iCONST 1 :: ICMP 4 53 :: bPUSH 90 :: aLD 0 1 :: iLD 3 1 :: iCONST 2 :: iADD :: iALD :: iSUB :: iLD 2 1 :: IFC 1 23 :: iCONST 2 :: GOTO 24 :: am_ju 53 23 := rfl
set_option maxRecDepth 100000 in
theorem ju_53_23 : am_ju 53 23 = iCONST 1 :: am_ju 53 24 := rfl
set_option maxRecDepth 100000 in
theorem ju_53_24 : am_ju 53 24 = aLD 0 1 :: iLD 3 1 :: iCONST 1 :: iADD :: iALD :: iMUL :: iSUB :: iST 5 0 :: iLD 5 0 :: iLD 2 1 :: iCONST 1 :: iCONST 2 :: CALL 17 3 0 47 1080 :: IFC 0 40 :: bPUSH 30 :: GOTO 41 :: am_ju 53 40 := rfl
set_option maxRecDepth 100000 in
theorem ju_53_40 : am_ju 53 40 = iCONST 0 :: am_ju 53 41 := rfl
set_option maxRecDepth 100000 in
theorem ju_53_41 : am_ju 53 41 = iSUB :: iST 5 0 :: iLD 5 0 :: iLD 4 0 :: iCONST 1 :: ICMP 1 49 :: bPUSH 40 :: GOTO 50 :: am_ju 53 49 := rfl
set_option maxRecDepth 100000 in
theorem ju_53_49 : am_ju 53 49 = iCONST 0 :: am_ju 53 50 := rfl
set_option maxRecDepth 100000 in
theorem ju_53_50 : am_ju 53 50 = iADD :: iST 5 0 :: GOTO 85 :: am_ju 53 53 := rfl
set_option maxRecDepth 100000 in
theorem ju_53_53 : am_ju 53 53 = bPUSH 70 :: iCONST 2 :: aLD 0 1 :: iLD 3 1 :: iCONST 2 :: iADD :: iALD :: iMUL :: iSUB :: iLD 2 1 :: iCONST 3 :: ICMP 1 67 :: bPUSH 20 :: GOTO 68 :: am_ju 53 67 := rfl
set_option maxRecDepth 100000 in
theorem ju_53_67 : am_ju 53 67 = iCONST 0 :: am_ju 53 68 := rfl
set_option maxRecDepth 100000 in
theorem ju_53_68 : am_ju 53 68 = iSUB :: iST 5 0 :: iLD 5 0 :: iLD 4 0 :: iCONST 3 :: ICMP 1 82 :: aLD 0 1 :: iLD 3 1 :: iCONST 2 :: iADD :: iALD :: bPUSH 30 :: iADD :: GOTO 83 :: am_ju 53 82 := rfl
set_option maxRecDepth 100000 in
theorem ju_53_82 : am_ju 53 82 = iCONST 0 :: am_ju 53 83 := rfl
set_option maxRecDepth 100000 in
theorem ju_53_83 : am_ju 53 83 = iADD :: iST 5 0 :: am_ju 53 85 := rfl
set_option maxRecDepth 100000 in
theorem ju_53_85 : am_ju 53 85 = iLD 5 0 :: IFC 3 89 :: iCONST 0 :: GOTO 90 :: am_ju 53 89 := rfl
set_option maxRecDepth 100000 in
theorem ju_53_89 : am_ju 53 89 = iLD 5 0 :: am_ju 53 90 := rfl
set_option maxRecDepth 100000 in
theorem ju_53_90 : am_ju 53 90 = iRET :: [] := rfl
theorem ju_54_0 : am_ju 54 0 = aLD 0 1 :: iLD 1 1 :: CALL 33 2 2 70 1104 :: IFC 0 15 :: iLD 2 1 :: iCONST 0 :: iCONST 3 :: CALL 17 3 0 47 1080 :: IFC 0 15 :: aLD 0 1 :: gR 11 0 7 1018 :: iLD 1 1 :: iLD 2 1 :: CALL 53 3 0 87 1136 :: GOTO 16 :: am_ju 54 15 := rfl
theorem ju_54_15 : am_ju 54 15 = iCONST (-1) :: am_ju 54 16 := rfl
theorem ju_54_16 : am_ju 54 16 = iRET :: [] := rfl
theorem ju_55_0 : am_ju 55 0 = iLD 0 1 :: iLD 0 1 :: iCONST 1 :: iUSHR :: LDCW 1431655765 265 538 :: iAND :: iSUB :: iST 0 1 :: iLD 0 1 :: LDCW 858993459 266 539 :: iAND :: iLD 0 1 :: iCONST 2 :: iUSHR :: LDCW 858993459 266 539 :: iAND :: iADD :: iST 0 1 :: iLD 0 1 :: iLD 0 1 :: iCONST 4 :: iUSHR :: iADD :: LDCW 252645135 267 540 :: iAND :: iST 0 1 :: iLD 0 1 :: iLD 0 1 :: bPUSH 8 :: iUSHR :: iADD :: iST 0 1 :: iLD 0 1 :: iLD 0 1 :: bPUSH 16 :: iUSHR :: iADD :: iST 0 1 :: iLD 0 1 :: bPUSH 63 :: iAND :: iRET :: [] := rfl
theorem ju_56_0 : am_ju 56 0 = iLD 1 1 :: iCONST 3 :: ICMP 1 8 :: iCONST 3 :: aLD 0 1 :: gI 0 7 33 262 :: iMUL :: iRET :: am_ju 56 8 := rfl
theorem ju_56_8 : am_ju 56 8 = aLD 0 1 :: gI 0 5 27 259 :: bPUSH 10 :: iLD 2 1 :: iADD :: iMUL :: bPUSH 10 :: iDIV :: iST 3 1 :: iLD 1 1 :: IFC 1 21 :: iLD 3 1 :: iRET :: am_ju 56 21 := rfl
theorem ju_56_21 : am_ju 56 21 = iCONST 2 :: aLD 0 1 :: gI 0 3 21 254 :: bPUSH 6 :: iAND :: CALL 55 1 0 62 535 :: iSUB :: iST 4 0 :: iLD 4 0 :: IFC 4 33 :: iCONST 0 :: GOTO 36 :: am_ju 56 33 := rfl
theorem ju_56_33 : am_ju 56 33 = iLD 3 1 :: iLD 4 0 :: iDIV :: am_ju 56 36 := rfl
theorem ju_56_36 : am_ju 56 36 = iRET :: [] := rfl
theorem ju_57_0 : am_ju 57 0 = aLD 0 1 :: gR 10 0 59 390 :: gR 9 0 82 217 :: iLD 1 1 :: CALL 28 2 2 104 469 :: IFC 0 14 :: iLD 2 1 :: iCONST 4 :: CALL 12 2 0 78 428 :: IFC 0 14 :: iLD 3 1 :: bPUSH 8 :: CALL 12 2 0 78 428 :: IFC 1 16 :: am_ju 57 14 := rfl
theorem ju_57_14 : am_ju 57 14 = iCONST (-1) :: iRET :: am_ju 57 16 := rfl
theorem ju_57_16 : am_ju 57 16 = aLD 0 1 :: gR 10 0 59 390 :: aLD 0 1 :: gR 10 5 23 395 :: iLD 1 1 :: aLD 0 1 :: gR 10 0 59 390 :: iLD 1 1 :: CALL 39 2 2 123 488 :: CALL 42 4 2 127 492 :: aLD 0 1 :: gR 10 5 23 395 :: iLD 2 1 :: iLD 3 1 :: CALL 56 3 2 153 531 :: iRET :: [] := rfl
theorem ju_58_0 : am_ju 58 0 = iLD 2 1 :: iCONST 3 :: ICMP 1 10 :: iCONST 3 :: aLD 0 1 :: iLD 1 1 :: iCONST 2 :: CALL 46 3 0 80 1126 :: iMUL :: iRET :: am_ju 58 10 := rfl
theorem ju_58_10 : am_ju 58 10 = aLD 0 1 :: iLD 1 1 :: iCONST 0 :: CALL 46 3 0 80 1126 :: bPUSH 10 :: iLD 3 1 :: iADD :: iMUL :: bPUSH 10 :: iDIV :: iST 4 0 :: aLD 0 1 :: iLD 1 1 :: CALL 18 1 0 51 1086 :: iCONST 3 :: iADD :: iALD :: iST 5 0 :: iLD 5 0 :: iCONST 1 :: CALL 34 2 0 62 1112 :: IFC 0 34 :: iCONST 0 :: GOTO 35 :: am_ju 58 34 := rfl
theorem ju_58_34 : am_ju 58 34 = iCONST 1 :: am_ju 58 35 := rfl
theorem ju_58_35 : am_ju 58 35 = iLD 5 0 :: iCONST 2 :: CALL 34 2 0 62 1112 :: IFC 0 41 :: iCONST 0 :: GOTO 42 :: am_ju 58 41 := rfl
theorem ju_58_41 : am_ju 58 41 = iCONST 1 :: am_ju 58 42 := rfl
theorem ju_58_42 : am_ju 58 42 = iADD :: iST 6 0 :: iLD 2 1 :: IFC 1 48 :: iLD 4 0 :: GOTO 55 :: am_ju 58 48 := rfl
theorem ju_58_48 : am_ju 58 48 = iLD 6 0 :: IFC 1 52 :: iCONST 0 :: GOTO 55 :: am_ju 58 52 := rfl
theorem ju_58_52 : am_ju 58 52 = iLD 4 0 :: iLD 6 0 :: iDIV :: am_ju 58 55 := rfl
theorem ju_58_55 : am_ju 58 55 = iRET :: [] := rfl
theorem ju_59_0 : am_ju 59 0 = aLD 0 1 :: iLD 1 1 :: CALL 33 2 2 70 1104 :: IFC 0 21 :: iLD 2 1 :: iCONST 0 :: iCONST 3 :: CALL 17 3 0 47 1080 :: IFC 0 21 :: iLD 3 1 :: iCONST 0 :: bPUSH 7 :: CALL 17 3 0 47 1080 :: IFC 0 21 :: aLD 0 1 :: gR 11 0 7 1018 :: iLD 1 1 :: iLD 2 1 :: iLD 3 1 :: CALL 58 4 0 90 1143 :: GOTO 22 :: am_ju 59 21 := rfl
theorem ju_59_21 : am_ju 59 21 = iCONST (-1) :: am_ju 59 22 := rfl
theorem ju_59_22 : am_ju 59 22 = iRET :: [] := rfl
theorem ju_60_0 : am_ju 60 0 = aLD 0 1 :: gR 10 0 59 390 :: gR 9 0 82 217 :: aST 3 1 :: aLD 3 1 :: iLD 1 1 :: CALL 27 2 2 100 464 :: IFC 1 10 :: iCONST (-1) :: iRET :: am_ju 60 10 := rfl
theorem ju_60_10 : am_ju 60 10 = iLD 2 1 :: TSW [0, 5, 44, 12, 17, 22, 27, 32, 37] :: am_ju 60 12 := rfl
theorem ju_60_12 : am_ju 60 12 = aLD 3 1 :: gR 2 1 156 98 :: iLD 1 1 :: iALD :: iRET :: am_ju 60 17 := rfl
theorem ju_60_17 : am_ju 60 17 = aLD 3 1 :: gR 2 2 158 101 :: iLD 1 1 :: iALD :: iRET :: am_ju 60 22 := rfl
theorem ju_60_22 : am_ju 60 22 = aLD 3 1 :: gR 2 3 161 104 :: iLD 1 1 :: iALD :: iRET :: am_ju 60 27 := rfl
theorem ju_60_27 : am_ju 60 27 = aLD 3 1 :: gR 2 4 164 107 :: iLD 1 1 :: iALD :: iRET :: am_ju 60 32 := rfl
theorem ju_60_32 : am_ju 60 32 = aLD 3 1 :: gR 2 5 167 110 :: iLD 1 1 :: iALD :: iRET :: am_ju 60 37 := rfl
theorem ju_60_37 : am_ju 60 37 = aLD 0 1 :: gR 10 0 59 390 :: gR 9 2 107 225 :: gR 3 3 170 175 :: iLD 1 1 :: iALD :: iRET :: am_ju 60 44 := rfl
theorem ju_60_44 : am_ju 60 44 = iCONST (-1) :: iRET :: [] := rfl
theorem ju_61_0 : am_ju 61 0 = aLD 0 1 :: iLD 1 1 :: CALL 32 2 2 66 1100 :: IFC 0 17 :: iLD 2 1 :: iCONST 0 :: iCONST 5 :: CALL 17 3 0 47 1080 :: IFC 0 17 :: aLD 0 1 :: gR 11 0 7 1018 :: iLD 1 1 :: CALL 25 1 0 59 1093 :: iLD 2 1 :: iADD :: iALD :: GOTO 18 :: am_ju 61 17 := rfl
theorem ju_61_17 : am_ju 61 17 = iCONST (-1) :: am_ju 61 18 := rfl
theorem ju_61_18 : am_ju 61 18 = iRET :: [] := rfl
theorem ju_62_0 : am_ju 62 0 = aLD 0 1 :: gR 10 0 59 390 :: gR 9 0 82 217 :: iLD 1 1 :: CALL 28 2 2 104 469 :: IFC 0 14 :: iLD 2 1 :: iCONST 2 :: CALL 12 2 0 78 428 :: IFC 0 14 :: iLD 3 1 :: sPUSH 1000 :: CALL 12 2 0 78 428 :: IFC 1 16 :: am_ju 62 14 := rfl
theorem ju_62_14 : am_ju 62 14 = iCONST (-1) :: iRET :: am_ju 62 16 := rfl
theorem ju_62_16 : am_ju 62 16 = iLD 2 1 :: IFC 1 23 :: aLD 0 1 :: gR 10 0 59 390 :: gR 9 2 107 225 :: gR 3 0 173 165 :: GOTO 27 :: am_ju 62 23 := rfl
theorem ju_62_23 : am_ju 62 23 = aLD 0 1 :: gR 10 0 59 390 :: gR 9 2 107 225 :: gR 3 1 175 168 :: am_ju 62 27 := rfl
theorem ju_62_27 : am_ju 62 27 = aST 4 0 :: aLD 4 0 :: iLD 1 1 :: iALD :: iST 5 0 :: aLD 4 0 :: iLD 1 1 :: iLD 3 1 :: iAST :: iLD 5 0 :: iRET :: [] := rfl
theorem ju_63_0 : am_ju 63 0 = aLD 0 1 :: iLD 1 1 :: CALL 33 2 2 70 1104 :: IFC 0 14 :: iLD 2 1 :: iCONST 0 :: iCONST 1 :: CALL 17 3 0 47 1080 :: IFC 0 14 :: iLD 3 1 :: iCONST 0 :: sPUSH 999 :: CALL 17 3 0 47 1080 :: IFC 1 16 :: am_ju 63 14 := rfl
theorem ju_63_14 : am_ju 63 14 = iCONST (-1) :: iRET :: am_ju 63 16 := rfl
theorem ju_63_16 : am_ju 63 16 = aLD 0 1 :: gR 11 0 7 1018 :: iLD 1 1 :: CALL 18 1 0 51 1086 :: iCONST 1 :: iADD :: iLD 2 1 :: iADD :: iALD :: iST 4 0 :: aLD 0 1 :: gR 11 0 7 1018 :: iLD 1 1 :: CALL 18 1 0 51 1086 :: iCONST 1 :: iADD :: iLD 2 1 :: iADD :: iLD 3 1 :: iAST :: iLD 4 0 :: iRET :: [] := rfl
theorem ju_64_0 : am_ju 64 0 = aLD 0 1 :: gI 7 1 15 287 :: bPUSH 100 :: ICMP 2 5 :: vRET :: am_ju 64 5 := rfl
theorem ju_64_5 : am_ju 64 5 = aLD 0 1 :: gR 7 0 9 286 :: aLD 0 1 :: gI 7 1 15 287 :: iLD 1 1 :: iAST :: aLD 0 1 :: DUP :: gI 7 1 15 287 :: iCONST 1 :: iADD :: pI 7 1 15 287 :: vRET :: [] := rfl
theorem ju_65_0 : am_ju 65 0 = iLD 1 1 :: bPUSH 32 :: ICMP 2 6 :: iLD 1 1 :: bPUSH 126 :: ICMP 5 8 :: am_ju 65 6 := rfl
theorem ju_65_6 : am_ju 65 6 = iCONST (-1) :: iRET :: am_ju 65 8 := rfl
theorem ju_65_8 : am_ju 65 8 = aLD 0 1 :: gR 10 6 30 396 :: gI 7 1 177 288 :: bPUSH 100 :: ICMP 2 15 :: bPUSH (-3) :: iRET :: am_ju 65 15 := rfl
theorem ju_65_15 : am_ju 65 15 = aLD 0 1 :: gR 10 6 30 396 :: iLD 1 1 :: CALL 64 2 2 180 553 :: aLD 0 1 :: gR 10 6 30 396 :: gI 7 1 177 288 :: iRET :: [] := rfl
theorem ju_66_0 : am_ju 66 0 = iLD 1 1 :: bPUSH 32 :: bPUSH 126 :: CALL 17 3 0 47 1080 :: IFC 1 7 :: iCONST (-1) :: iRET :: am_ju 66 7 := rfl
theorem ju_66_7 : am_ju 66 7 = aLD 0 1 :: gI 11 6 94 1024 :: bPUSH 100 :: ICMP 1 13 :: bPUSH (-3) :: iRET :: am_ju 66 13 := rfl
theorem ju_66_13 : am_ju 66 13 = aLD 0 1 :: gR 11 5 22 1023 :: aLD 0 1 :: gI 11 6 94 1024 :: iLD 1 1 :: iAST :: aLD 0 1 :: DUP :: gI 11 6 94 1024 :: iCONST 1 :: iADD :: pI 11 6 94 1024 :: aLD 0 1 :: gI 11 6 94 1024 :: iRET :: [] := rfl
theorem ju_67_0 : am_ju 67 0 = aLD 0 1 :: gI 7 2 19 289 :: aLD 0 1 :: gI 7 1 15 287 :: ICMP 3 23 :: aLD 0 1 :: gI 7 2 19 289 :: bPUSH 100 :: ICMP 3 23 :: aLD 0 1 :: gR 7 0 9 286 :: aLD 0 1 :: gI 7 2 19 289 :: iALD :: bPUSH 32 :: ICMP 1 23 :: aLD 0 1 :: DUP :: gI 7 2 19 289 :: iCONST 1 :: iADD :: pI 7 2 19 289 :: GOTO 0 :: am_ju 67 23 := rfl
theorem ju_67_23 : am_ju 67 23 = aLD 0 1 :: gI 7 2 19 289 :: aLD 0 1 :: gI 7 1 15 287 :: ICMP 3 38 :: aLD 0 1 :: gI 7 2 19 289 :: bPUSH 100 :: ICMP 3 38 :: aLD 0 1 :: gR 7 0 9 286 :: aLD 0 1 :: gI 7 2 19 289 :: iALD :: GOTO 39 :: am_ju 67 38 := rfl
theorem ju_67_38 : am_ju 67 38 = iCONST (-1) :: am_ju 67 39 := rfl
theorem ju_67_39 : am_ju 67 39 = iRET :: [] := rfl
theorem ju_68_0 : am_ju 68 0 = iLD 0 1 :: LSW [12, 46, 2, 98, 8, 100, 6, 115, 10, 117, 4] :: am_ju 68 2 := rfl
theorem ju_68_2 : am_ju 68 2 = iCONST 0 :: iRET :: am_ju 68 4 := rfl
theorem ju_68_4 : am_ju 68 4 = iCONST 1 :: iRET :: am_ju 68 6 := rfl
theorem ju_68_6 : am_ju 68 6 = iCONST 2 :: iRET :: am_ju 68 8 := rfl
theorem ju_68_8 : am_ju 68 8 = iCONST 3 :: iRET :: am_ju 68 10 := rfl
theorem ju_68_10 : am_ju 68 10 = iCONST 4 :: iRET :: am_ju 68 12 := rfl
theorem ju_68_12 : am_ju 68 12 = iCONST (-1) :: iRET :: [] := rfl
theorem ju_69_0 : am_ju 69 0 = bPUSH (-20) :: aLD 0 1 :: gI 7 2 19 289 :: iSUB :: iRET :: [] := rfl
theorem ju_70_0 : am_ju 70 0 = aLD 0 1 :: iCONST 0 :: pI 7 2 19 289 :: iCONST 0 :: iST 2 1 :: am_ju 70 5 := rfl
theorem ju_70_5 : am_ju 70 5 = iLD 2 1 :: bPUSH 20 :: ICMP 3 41 :: aLD 0 1 :: CALL 67 1 2 22 565 :: CALL 68 1 0 26 569 :: iST 3 1 :: iLD 3 1 :: IFC 3 15 :: GOTO 41 :: am_ju 70 15 := rfl
theorem ju_70_15 : am_ju 70 15 = aLD 1 1 :: gR 8 0 30 146 :: iLD 2 1 :: iLD 3 1 :: iAST :: aLD 1 1 :: iLD 2 1 :: iCONST 1 :: iADD :: pI 8 1 35 148 :: aLD 0 1 :: DUP :: gI 7 2 19 289 :: iCONST 1 :: iADD :: pI 7 2 19 289 :: aLD 0 1 :: CALL 67 1 2 22 565 :: iCONST (-1) :: ICMP 1 39 :: iLD 2 1 :: iCONST 1 :: iADD :: iRET :: am_ju 70 39 := rfl
theorem ju_70_39 : am_ju 70 39 = IINC 2 1 :: GOTO 5 :: am_ju 70 41 := rfl
theorem ju_70_41 : am_ju 70 41 = aLD 0 1 :: CALL 69 1 2 36 572 :: iRET :: [] := rfl
theorem ju_71_0 : am_ju 71 0 = aLD 1 1 :: iCONST 0 :: aLD 0 1 :: iCONST 0 :: aLD 1 1 :: aLEN :: aLD 0 1 :: aLEN :: MMIN 302 587 :: ACPY 348 590 :: vRET :: [] := rfl
theorem ju_72_0 : am_ju 72 0 = aLD 0 1 :: gR 8 0 9 145 :: aLD 1 1 :: gR 8 0 9 145 :: CALL 71 2 1 23 584 :: aLD 0 1 :: aLD 1 1 :: gI 8 1 15 147 :: pI 8 1 15 147 :: vRET :: [] := rfl
theorem ju_73_0 : am_ju 73 0 = aLD 0 1 :: gR 9 1 21 220 :: aLD 1 1 :: CALL 72 2 2 64 580 :: aLD 0 1 :: gR 9 2 28 223 :: iCONST 0 :: pI 3 4 68 178 :: aLD 0 1 :: gR 9 3 35 226 :: iCONST 0 :: pI 5 2 50 207 :: vRET :: [] := rfl
theorem ju_74_0 : am_ju 74 0 = aLD 0 1 :: gR 10 6 30 396 :: aLD 0 1 :: gR 10 7 37 397 :: CALL 70 2 2 183 561 :: iST 1 1 :: aLD 0 1 :: gR 10 6 30 396 :: iCONST 0 :: pI 7 1 177 288 :: iLD 1 1 :: IFC 2 17 :: aLD 0 1 :: gR 10 0 59 390 :: aLD 0 1 :: gR 10 7 37 397 :: CALL 73 2 2 186 576 :: am_ju 74 17 := rfl
theorem ju_74_17 : am_ju 74 17 = iLD 1 1 :: iRET :: [] := rfl
theorem ju_75_0 : am_ju 75 0 = aLD 0 1 :: gI 11 11 98 1029 :: aLD 0 1 :: gI 11 6 94 1024 :: ICMP 3 19 :: aLD 0 1 :: gR 11 5 22 1023 :: aLD 0 1 :: gI 11 11 98 1029 :: iALD :: bPUSH 32 :: ICMP 1 19 :: aLD 0 1 :: DUP :: gI 11 11 98 1029 :: iCONST 1 :: iADD :: pI 11 11 98 1029 :: GOTO 0 :: am_ju 75 19 := rfl
theorem ju_75_19 : am_ju 75 19 = aLD 0 1 :: gI 11 11 98 1029 :: aLD 0 1 :: gI 11 6 94 1024 :: ICMP 3 30 :: aLD 0 1 :: gR 11 5 22 1023 :: aLD 0 1 :: gI 11 11 98 1029 :: iALD :: GOTO 31 :: am_ju 75 30 := rfl
theorem ju_75_30 : am_ju 75 30 = iCONST (-1) :: am_ju 75 31 := rfl
theorem ju_75_31 : am_ju 75 31 = iRET :: [] := rfl
theorem ju_76_0 : am_ju 76 0 = iLD 0 1 :: bPUSH 46 :: ICMP 1 5 :: iCONST 0 :: GOTO 26 :: am_ju 76 5 := rfl
theorem ju_76_5 : am_ju 76 5 = iLD 0 1 :: bPUSH 117 :: ICMP 1 10 :: iCONST 1 :: GOTO 26 :: am_ju 76 10 := rfl
theorem ju_76_10 : am_ju 76 10 = iLD 0 1 :: bPUSH 100 :: ICMP 1 15 :: iCONST 2 :: GOTO 26 :: am_ju 76 15 := rfl
theorem ju_76_15 : am_ju 76 15 = iLD 0 1 :: bPUSH 98 :: ICMP 1 20 :: iCONST 3 :: GOTO 26 :: am_ju 76 20 := rfl
theorem ju_76_20 : am_ju 76 20 = iLD 0 1 :: bPUSH 115 :: ICMP 1 25 :: iCONST 4 :: GOTO 26 :: am_ju 76 25 := rfl
theorem ju_76_25 : am_ju 76 25 = iCONST (-1) :: am_ju 76 26 := rfl
theorem ju_76_26 : am_ju 76 26 = iRET :: [] := rfl
theorem ju_77_0 : am_ju 77 0 = aLD 0 1 :: aLD 0 1 :: gI 11 12 101 1030 :: IFC 3 6 :: iLD 1 1 :: GOTO 8 :: am_ju 77 6 := rfl
theorem ju_77_6 : am_ju 77 6 = aLD 0 1 :: gI 11 12 101 1030 :: am_ju 77 8 := rfl
theorem ju_77_8 : am_ju 77 8 = pI 11 12 101 1030 :: vRET :: [] := rfl
set_option maxRecDepth 100000 in
theorem ju_78_0 : am_ju 78 0 = aLD 0 1 :: iCONST 0 :: pI 11 11 98 1029 :: aLD 0 1 :: iCONST (-1) :: pI 11 12 101 1030 :: iCONST 0 :: iST 1 1 :: iCONST 0 :: iST 2 1 :: am_ju 78 10 := rfl
set_option maxRecDepth 100000 in
theorem ju_78_10 : am_ju 78 10 = iLD 2 1 :: bPUSH 20 :: ICMP 3 33 :: aLD 0 1 :: CALL 75 1 2 104 1162 :: CALL 76 1 0 108 1166 :: iST 3 1 :: iLD 3 1 :: IFC 2 31 :: aLD 0 1 :: gR 11 2 16 1020 :: iLD 1 1 :: iLD 3 1 :: iAST :: IINC 1 1 :: aLD 0 1 :: DUP :: gI 11 11 98 1029 :: iCONST 1 :: iADD :: pI 11 11 98 1029 :: am_ju 78 31 := rfl
set_option maxRecDepth 100000 in
theorem ju_78_31 : am_ju 78 31 = IINC 2 1 :: GOTO 10 :: am_ju 78 33 := rfl
set_option maxRecDepth 100000 in
theorem ju_78_33 : am_ju 78 33 = aLD 0 1 :: CALL 75 1 2 104 1162 :: IFC 3 38 :: iLD 1 1 :: IFC 1 42 :: am_ju 78 38 := rfl
set_option maxRecDepth 100000 in
theorem ju_78_38 : am_ju 78 38 = aLD 0 1 :: aLD 0 1 :: gI 11 11 98 1029 :: CALL 77 2 2 111 1169 :: am_ju 78 42 := rfl
set_option maxRecDepth 100000 in
theorem ju_78_42 : am_ju 78 42 = aLD 0 1 :: iCONST 0 :: pI 11 6 94 1024 :: aLD 0 1 :: gI 11 12 101 1030 :: IFC 2 53 :: bPUSH (-20) :: aLD 0 1 :: gI 11 12 101 1030 :: iSUB :: iRET :: am_ju 78 53 := rfl
set_option maxRecDepth 100000 in
theorem ju_78_53 : am_ju 78 53 = iCONST 0 :: iST 2 1 :: am_ju 78 55 := rfl
set_option maxRecDepth 100000 in
theorem ju_78_55 : am_ju 78 55 = iLD 2 1 :: bPUSH 20 :: ICMP 3 75 :: aLD 0 1 :: gR 11 0 7 1018 :: bPUSH 66 :: iLD 2 1 :: iADD :: iLD 2 1 :: iLD 1 1 :: ICMP 3 71 :: aLD 0 1 :: gR 11 2 16 1020 :: iLD 2 1 :: iALD :: GOTO 72 :: am_ju 78 71 := rfl
set_option maxRecDepth 100000 in
theorem ju_78_71 : am_ju 78 71 = iCONST 0 :: am_ju 78 72 := rfl
set_option maxRecDepth 100000 in
theorem ju_78_72 : am_ju 78 72 = iAST :: IINC 2 1 :: GOTO 55 :: am_ju 78 75 := rfl
set_option maxRecDepth 100000 in
theorem ju_78_75 : am_ju 78 75 = aLD 0 1 :: gR 11 0 7 1018 :: iCONST 2 :: iLD 1 1 :: iAST :: aLD 0 1 :: gR 11 0 7 1018 :: iCONST 3 :: iCONST 0 :: iAST :: aLD 0 1 :: gR 11 0 7 1018 :: iCONST 5 :: iCONST 0 :: iAST :: iLD 1 1 :: iRET :: [] := rfl
theorem ju_79_0 : am_ju 79 0 = iCONST 0 :: iST 2 1 :: aLD 0 1 :: aLEN :: iST 3 1 :: am_ju 79 5 := rfl
theorem ju_79_5 : am_ju 79 5 = iLD 2 1 :: iLD 3 1 :: ICMP 3 14 :: aLD 0 1 :: iLD 2 1 :: iLD 1 1 :: iAST :: IINC 2 1 :: GOTO 5 :: am_ju 79 14 := rfl
theorem ju_79_14 : am_ju 79 14 = vRET :: [] := rfl
theorem ju_80_0 : am_ju 80 0 = iLD 0 1 :: LSW [10, 67, 8, 68, 4, 80, 2, 84, 6] :: am_ju 80 2 := rfl
theorem ju_80_2 : am_ju 80 2 = iCONST 0 :: iRET :: am_ju 80 4 := rfl
theorem ju_80_4 : am_ju 80 4 = iCONST 1 :: iRET :: am_ju 80 6 := rfl
theorem ju_80_6 : am_ju 80 6 = iCONST 2 :: iRET :: am_ju 80 8 := rfl
theorem ju_80_8 : am_ju 80 8 = iCONST 3 :: iRET :: am_ju 80 10 := rfl
theorem ju_80_10 : am_ju 80 10 = iCONST (-1) :: iRET :: [] := rfl
theorem ju_81_0 : am_ju 81 0 = iCONST 0 :: iST 2 1 :: am_ju 81 2 := rfl
theorem ju_81_2 : am_ju 81 2 = iLD 2 1 :: iCONST 3 :: ICMP 3 52 :: aLD 0 1 :: CALL 67 1 2 22 565 :: CALL 80 1 0 61 608 :: iST 3 1 :: iLD 3 1 :: IFC 3 13 :: iCONST 0 :: zRET :: am_ju 81 13 := rfl
theorem ju_81_13 : am_ju 81 13 = aLD 1 1 :: iLD 3 1 :: CALL 14 2 2 64 611 :: aLD 0 1 :: DUP :: gI 7 2 19 289 :: iCONST 1 :: iADD :: pI 7 2 19 289 :: aLD 0 1 :: CALL 67 1 2 22 565 :: iST 4 0 :: iLD 4 0 :: bPUSH 59 :: ICMP 1 36 :: aLD 0 1 :: DUP :: gI 7 2 19 289 :: iCONST 1 :: iADD :: pI 7 2 19 289 :: iCONST 1 :: zRET :: am_ju 81 36 := rfl
theorem ju_81_36 : am_ju 81 36 = iLD 4 0 :: bPUSH 44 :: ICMP 1 42 :: iLD 2 1 :: iCONST 2 :: ICMP 1 44 :: am_ju 81 42 := rfl
theorem ju_81_42 : am_ju 81 42 = iCONST 0 :: zRET :: am_ju 81 44 := rfl
theorem ju_81_44 : am_ju 81 44 = aLD 0 1 :: DUP :: gI 7 2 19 289 :: iCONST 1 :: iADD :: pI 7 2 19 289 :: IINC 2 1 :: GOTO 2 :: am_ju 81 52 := rfl
theorem ju_81_52 : am_ju 81 52 = iCONST 0 :: zRET :: [] := rfl
theorem ju_82_0 : am_ju 82 0 = aLD 0 1 :: CALL 67 1 2 22 565 :: POP :: aLD 0 1 :: gI 7 2 19 289 :: iST 1 1 :: iCONST 0 :: iST 2 1 :: am_ju 82 8 := rfl
theorem ju_82_8 : am_ju 82 8 = aLD 0 1 :: gI 7 2 19 289 :: aLD 0 1 :: gI 7 1 15 287 :: ICMP 3 52 :: aLD 0 1 :: gI 7 2 19 289 :: bPUSH 100 :: ICMP 3 52 :: aLD 0 1 :: gR 7 0 9 286 :: aLD 0 1 :: gI 7 2 19 289 :: iALD :: bPUSH 48 :: ICMP 2 52 :: aLD 0 1 :: gR 7 0 9 286 :: aLD 0 1 :: gI 7 2 19 289 :: iALD :: bPUSH 57 :: ICMP 4 52 :: bPUSH 99 :: iLD 2 1 :: bPUSH 10 :: iMUL :: aLD 0 1 :: gR 7 0 9 286 :: aLD 0 1 :: gI 7 2 19 289 :: iALD :: iADD :: bPUSH 48 :: iSUB :: MMIN 83 624 :: iST 2 1 :: aLD 0 1 :: DUP :: gI 7 2 19 289 :: iCONST 1 :: iADD :: pI 7 2 19 289 :: GOTO 8 :: am_ju 82 52 := rfl
theorem ju_82_52 : am_ju 82 52 = iLD 2 1 :: iCONST 1 :: ICMP 2 60 :: iLD 2 1 :: bPUSH 30 :: ICMP 4 60 :: iLD 2 1 :: iRET :: am_ju 82 60 := rfl
theorem ju_82_60 : am_ju 82 60 = aLD 0 1 :: iLD 1 1 :: pI 7 2 19 289 :: iCONST (-1) :: iRET :: [] := rfl
theorem ju_83_0 : am_ju 83 0 = aLD 0 1 :: CALL 67 1 2 22 565 :: iLD 1 1 :: ICMP 0 6 :: iLD 3 1 :: iRET :: am_ju 83 6 := rfl
theorem ju_83_6 : am_ju 83 6 = aLD 0 1 :: DUP :: gI 7 2 19 289 :: iCONST 1 :: iADD :: pI 7 2 19 289 :: aLD 0 1 :: CALL 67 1 2 22 565 :: bPUSH 48 :: iSUB :: iST 4 0 :: iLD 4 0 :: iLD 2 1 :: CALL 12 2 1 89 629 :: IFC 1 23 :: iCONST (-1) :: iRET :: am_ju 83 23 := rfl
theorem ju_83_23 : am_ju 83 23 = aLD 0 1 :: DUP :: gI 7 2 19 289 :: iCONST 1 :: iADD :: pI 7 2 19 289 :: iLD 4 0 :: iRET :: [] := rfl
theorem ju_84_0 : am_ju 84 0 = aLD 0 1 :: CALL 82 1 2 72 620 :: iST 2 1 :: iLD 2 1 :: IFC 3 7 :: iCONST (-1) :: iRET :: am_ju 84 7 := rfl
theorem ju_84_7 : am_ju 84 7 = aLD 0 1 :: bPUSH 119 :: bPUSH 6 :: iCONST 0 :: CALL 83 4 2 75 625 :: iST 3 1 :: iLD 3 1 :: IFC 3 17 :: iCONST (-1) :: iRET :: am_ju 84 17 := rfl
theorem ju_84_17 : am_ju 84 17 = aLD 0 1 :: bPUSH 101 :: bPUSH 6 :: iCONST 0 :: CALL 83 4 2 75 625 :: iST 4 0 :: iLD 4 0 :: IFC 3 27 :: iCONST (-1) :: iRET :: am_ju 84 27 := rfl
theorem ju_84_27 : am_ju 84 27 = aLD 0 1 :: CALL 67 1 2 22 565 :: bPUSH 114 :: ICMP 1 33 :: iCONST 1 :: GOTO 34 :: am_ju 84 33 := rfl
theorem ju_84_33 : am_ju 84 33 = iCONST 0 :: am_ju 84 34 := rfl
theorem ju_84_34 : am_ju 84 34 = iST 5 0 :: aLD 0 1 :: DUP :: gI 7 2 19 289 :: iLD 5 0 :: iADD :: pI 7 2 19 289 :: aLD 0 1 :: bPUSH 64 :: aLD 1 1 :: gI 2 6 39 116 :: iCONST 3 :: CALL 83 4 2 75 625 :: iST 6 0 :: iLD 6 0 :: IFC 3 52 :: iCONST (-1) :: iRET :: am_ju 84 52 := rfl
theorem ju_84_52 : am_ju 84 52 = aLD 1 1 :: iLD 2 1 :: iLD 3 1 :: iLD 4 0 :: iLD 2 1 :: iLD 5 0 :: CALL 22 6 2 79 630 :: iLD 6 0 :: iRET :: [] := rfl
theorem ju_85_0 : am_ju 85 0 = iCONST 0 :: iST 3 1 :: am_ju 85 2 := rfl
theorem ju_85_2 : am_ju 85 2 = iLD 3 1 :: aLD 2 1 :: aLEN :: ICMP 3 45 :: aLD 2 1 :: iLD 3 1 :: aLD 0 1 :: aLD 1 1 :: CALL 84 2 2 68 616 :: iAST :: aLD 2 1 :: iLD 3 1 :: iALD :: IFC 3 18 :: iCONST 0 :: zRET :: am_ju 85 18 := rfl
theorem ju_85_18 : am_ju 85 18 = aLD 0 1 :: CALL 67 1 2 22 565 :: iST 4 0 :: iLD 4 0 :: iCONST (-1) :: ICMP 1 26 :: iCONST 1 :: zRET :: am_ju 85 26 := rfl
theorem ju_85_26 : am_ju 85 26 = iLD 4 0 :: bPUSH 44 :: ICMP 1 35 :: iLD 3 1 :: aLD 2 1 :: aLEN :: iCONST 1 :: iSUB :: ICMP 1 37 :: am_ju 85 35 := rfl
theorem ju_85_35 : am_ju 85 35 = iCONST 0 :: zRET :: am_ju 85 37 := rfl
theorem ju_85_37 : am_ju 85 37 = aLD 0 1 :: DUP :: gI 7 2 19 289 :: iCONST 1 :: iADD :: pI 7 2 19 289 :: IINC 3 1 :: GOTO 2 :: am_ju 85 45 := rfl
theorem ju_85_45 : am_ju 85 45 = iCONST 0 :: zRET :: [] := rfl
theorem ju_86_0 : am_ju 86 0 = aLD 0 1 :: iCONST 0 :: pI 7 2 19 289 :: aLD 1 1 :: iCONST 0 :: pI 2 6 39 116 :: aLD 1 1 :: iCONST 0 :: pI 2 7 44 120 :: aLD 2 1 :: iCONST 3 :: CALL 79 2 0 47 601 :: aLD 0 1 :: aLD 1 1 :: CALL 81 2 2 53 604 :: IFC 0 21 :: aLD 0 1 :: aLD 1 1 :: aLD 2 1 :: CALL 85 3 2 57 612 :: IFC 1 24 :: am_ju 86 21 := rfl
theorem ju_86_21 : am_ju 86 21 = aLD 0 1 :: CALL 69 1 2 36 572 :: iRET :: am_ju 86 24 := rfl
theorem ju_86_24 : am_ju 86 24 = aLD 1 1 :: gI 2 7 44 120 :: iRET :: [] := rfl
theorem ju_87_0 : am_ju 87 0 = aLD 0 1 :: gR 2 0 9 93 :: aLD 1 1 :: gR 2 0 9 93 :: CALL 71 2 1 41 639 :: aLD 0 1 :: gR 2 1 15 96 :: aLD 1 1 :: gR 2 1 15 96 :: CALL 71 2 1 41 639 :: aLD 0 1 :: gR 2 2 18 99 :: aLD 1 1 :: gR 2 2 18 99 :: CALL 71 2 1 41 639 :: aLD 0 1 :: gR 2 3 21 102 :: aLD 1 1 :: gR 2 3 21 102 :: CALL 71 2 1 41 639 :: aLD 0 1 :: gR 2 4 24 105 :: aLD 1 1 :: gR 2 4 24 105 :: CALL 71 2 1 41 639 :: aLD 0 1 :: gR 2 5 27 109 :: aLD 1 1 :: gR 2 5 27 109 :: CALL 71 2 1 41 639 :: aLD 0 1 :: aLD 1 1 :: gI 2 6 30 112 :: pI 2 6 30 112 :: aLD 0 1 :: aLD 1 1 :: gI 2 7 34 117 :: pI 2 7 34 117 :: vRET :: [] := rfl
theorem ju_88_0 : am_ju 88 0 = aLD 0 1 :: gR 9 0 12 216 :: aLD 1 1 :: CALL 87 2 2 71 635 :: aLD 0 1 :: gR 9 2 28 223 :: gR 3 3 74 174 :: aLD 2 1 :: CALL 71 2 1 78 640 :: iCONST 0 :: iST 3 1 :: am_ju 88 11 := rfl
theorem ju_88_11 : am_ju 88 11 = iLD 3 1 :: iCONST 3 :: ICMP 3 20 :: aLD 0 1 :: gR 9 2 28 223 :: iLD 3 1 :: CALL 13 2 2 43 435 :: IINC 3 1 :: GOTO 11 :: am_ju 88 20 := rfl
theorem ju_88_20 : am_ju 88 20 = aLD 0 1 :: gR 9 3 35 226 :: iCONST 0 :: pI 5 2 50 207 :: vRET :: [] := rfl
theorem ju_89_0 : am_ju 89 0 = aLD 0 1 :: gR 10 6 30 396 :: aLD 0 1 :: gR 10 8 44 398 :: aLD 0 1 :: gR 10 9 48 399 :: CALL 86 3 2 190 597 :: iST 1 1 :: aLD 0 1 :: gR 10 6 30 396 :: iCONST 0 :: pI 7 1 177 288 :: iLD 1 1 :: IFC 2 21 :: aLD 0 1 :: gR 10 0 59 390 :: aLD 0 1 :: gR 10 8 44 398 :: aLD 0 1 :: gR 10 9 48 399 :: CALL 88 3 2 194 631 :: am_ju 89 21 := rfl
theorem ju_89_21 : am_ju 89 21 = iLD 1 1 :: iRET :: [] := rfl
theorem ju_90_0 : am_ju 90 0 = iCONST 0 :: iST 2 1 :: am_ju 90 2 := rfl
theorem ju_90_2 : am_ju 90 2 = iLD 2 1 :: sPUSH 238 :: ICMP 3 13 :: aLD 1 1 :: iLD 2 1 :: aLD 0 1 :: iLD 2 1 :: iALD :: iAST :: IINC 2 1 :: GOTO 2 :: am_ju 90 13 := rfl
theorem ju_90_13 : am_ju 90 13 = vRET :: [] := rfl
theorem ju_91_0 : am_ju 91 0 = iLD 0 1 :: bPUSH 80 :: ICMP 1 5 :: iCONST 0 :: GOTO 21 :: am_ju 91 5 := rfl
theorem ju_91_5 : am_ju 91 5 = iLD 0 1 :: bPUSH 68 :: ICMP 1 10 :: iCONST 1 :: GOTO 21 :: am_ju 91 10 := rfl
theorem ju_91_10 : am_ju 91 10 = iLD 0 1 :: bPUSH 84 :: ICMP 1 15 :: iCONST 2 :: GOTO 21 :: am_ju 91 15 := rfl
theorem ju_91_15 : am_ju 91 15 = iLD 0 1 :: bPUSH 67 :: ICMP 1 20 :: iCONST 3 :: GOTO 21 :: am_ju 91 20 := rfl
theorem ju_91_20 : am_ju 91 20 = iCONST (-1) :: am_ju 91 21 := rfl
theorem ju_91_21 : am_ju 91 21 = iRET :: [] := rfl
theorem ju_92_0 : am_ju 92 0 = aLD 0 1 :: CALL 75 1 2 104 1162 :: CALL 91 1 0 115 1188 :: iST 1 1 :: iLD 1 1 :: IFC 3 11 :: aLD 0 1 :: aLD 0 1 :: gI 11 11 98 1029 :: CALL 77 2 2 111 1169 :: vRET :: am_ju 92 11 := rfl
theorem ju_92_11 : am_ju 92 11 = aLD 0 1 :: DUP :: gI 11 11 98 1029 :: iCONST 1 :: iADD :: pI 11 11 98 1029 :: aLD 0 1 :: gR 11 2 16 1020 :: iLD 1 1 :: CALL 19 2 0 55 1083 :: vRET :: [] := rfl
theorem ju_93_0 : am_ju 93 0 = aLD 0 1 :: CALL 75 1 2 104 1162 :: iLD 1 1 :: ICMP 1 11 :: aLD 0 1 :: DUP :: gI 11 11 98 1029 :: iCONST 1 :: iADD :: pI 11 11 98 1029 :: GOTO 15 :: am_ju 93 11 := rfl
theorem ju_93_11 : am_ju 93 11 = aLD 0 1 :: aLD 0 1 :: gI 11 11 98 1029 :: CALL 77 2 2 111 1169 :: am_ju 93 15 := rfl
theorem ju_93_15 : am_ju 93 15 = vRET :: [] := rfl
theorem ju_94_0 : am_ju 94 0 = aLD 0 1 :: CALL 75 1 2 104 1162 :: POP :: aLD 0 1 :: gI 11 11 98 1029 :: iST 1 1 :: iCONST 0 :: iST 2 1 :: am_ju 94 8 := rfl
theorem ju_94_8 : am_ju 94 8 = aLD 0 1 :: gI 11 11 98 1029 :: aLD 0 1 :: gI 11 6 94 1024 :: ICMP 3 46 :: aLD 0 1 :: gR 11 5 22 1023 :: aLD 0 1 :: gI 11 11 98 1029 :: iALD :: bPUSH 48 :: bPUSH 57 :: CALL 17 3 0 47 1080 :: IFC 0 46 :: iLD 2 1 :: bPUSH 99 :: ICMP 5 27 :: iLD 2 1 :: GOTO 38 :: am_ju 94 27 := rfl
theorem ju_94_27 : am_ju 94 27 = bPUSH 10 :: iLD 2 1 :: iMUL :: aLD 0 1 :: gR 11 5 22 1023 :: aLD 0 1 :: gI 11 11 98 1029 :: iALD :: iADD :: bPUSH 48 :: iSUB :: am_ju 94 38 := rfl
theorem ju_94_38 : am_ju 94 38 = iST 2 1 :: aLD 0 1 :: DUP :: gI 11 11 98 1029 :: iCONST 1 :: iADD :: pI 11 11 98 1029 :: GOTO 8 :: am_ju 94 46 := rfl
theorem ju_94_46 : am_ju 94 46 = iLD 2 1 :: iCONST 1 :: bPUSH 30 :: CALL 17 3 0 47 1080 :: IFC 1 54 :: aLD 0 1 :: iLD 1 1 :: CALL 77 2 2 111 1169 :: am_ju 94 54 := rfl
theorem ju_94_54 : am_ju 94 54 = iLD 2 1 :: iRET :: [] := rfl
theorem ju_95_0 : am_ju 95 0 = aLD 0 1 :: CALL 75 1 2 104 1162 :: bPUSH 48 :: iSUB :: iST 2 1 :: iLD 2 1 :: iCONST 0 :: iLD 1 1 :: CALL 17 3 0 47 1080 :: IFC 1 16 :: aLD 0 1 :: aLD 0 1 :: gI 11 11 98 1029 :: CALL 77 2 2 111 1169 :: iCONST 0 :: iRET :: am_ju 95 16 := rfl
theorem ju_95_16 : am_ju 95 16 = aLD 0 1 :: DUP :: gI 11 11 98 1029 :: iCONST 1 :: iADD :: pI 11 11 98 1029 :: iLD 2 1 :: iRET :: [] := rfl
theorem ju_96_0 : am_ju 96 0 = aLD 0 1 :: gI 11 12 101 1030 :: IFC 3 7 :: aLD 0 1 :: CALL 75 1 2 104 1162 :: iLD 1 1 :: ICMP 0 9 :: am_ju 96 7 := rfl
theorem ju_96_7 : am_ju 96 7 = iCONST 0 :: iRET :: am_ju 96 9 := rfl
theorem ju_96_9 : am_ju 96 9 = aLD 0 1 :: DUP :: gI 11 11 98 1029 :: iCONST 1 :: iADD :: pI 11 11 98 1029 :: aLD 0 1 :: iLD 2 1 :: CALL 95 2 2 118 1207 :: iRET :: [] := rfl
set_option maxRecDepth 100000 in
theorem ju_97_0 : am_ju 97 0 = aLD 0 1 :: gR 11 2 16 1020 :: iCONST 1 :: iALD :: CALL 25 1 0 59 1093 :: iST 1 1 :: aLD 0 1 :: CALL 94 1 2 121 1199 :: iST 2 1 :: aLD 0 1 :: gR 11 2 16 1020 :: iLD 1 1 :: iCONST 0 :: iADD :: iLD 2 1 :: iAST :: aLD 0 1 :: gR 11 2 16 1020 :: iLD 1 1 :: iCONST 3 :: iADD :: iLD 2 1 :: iAST :: aLD 0 1 :: gR 11 2 16 1020 :: iLD 1 1 :: iCONST 1 :: iADD :: aLD 0 1 :: bPUSH 119 :: iCONST 5 :: CALL 96 3 2 124 1203 :: iAST :: aLD 0 1 :: gR 11 2 16 1020 :: iLD 1 1 :: iCONST 2 :: iADD :: aLD 0 1 :: bPUSH 101 :: iCONST 5 :: CALL 96 3 2 124 1203 :: iAST :: aLD 0 1 :: gI 11 12 101 1030 :: IFC 3 52 :: aLD 0 1 :: CALL 75 1 2 104 1162 :: bPUSH 114 :: ICMP 1 52 :: iCONST 1 :: GOTO 53 :: am_ju 97 52 := rfl
set_option maxRecDepth 100000 in
theorem ju_97_52 : am_ju 97 52 = iCONST 0 :: am_ju 97 53 := rfl
set_option maxRecDepth 100000 in
theorem ju_97_53 : am_ju 97 53 = iST 3 1 :: aLD 0 1 :: DUP :: gI 11 11 98 1029 :: iLD 3 1 :: IFC 0 61 :: iCONST 1 :: GOTO 62 :: am_ju 97 61 := rfl
set_option maxRecDepth 100000 in
theorem ju_97_61 : am_ju 97 61 = iCONST 0 :: am_ju 97 62 := rfl
set_option maxRecDepth 100000 in
theorem ju_97_62 : am_ju 97 62 = iADD :: pI 11 11 98 1029 :: aLD 0 1 :: gR 11 2 16 1020 :: iLD 1 1 :: iCONST 4 :: iADD :: iLD 3 1 :: IFC 0 73 :: iCONST 1 :: GOTO 74 :: am_ju 97 73 := rfl
set_option maxRecDepth 100000 in
theorem ju_97_73 : am_ju 97 73 = iCONST 0 :: am_ju 97 74 := rfl
set_option maxRecDepth 100000 in
theorem ju_97_74 : am_ju 97 74 = iAST :: aLD 0 1 :: gI 11 12 101 1030 :: IFC 3 84 :: aLD 0 1 :: CALL 75 1 2 104 1162 :: bPUSH 64 :: ICMP 1 84 :: iCONST 1 :: GOTO 85 :: am_ju 97 84 := rfl
set_option maxRecDepth 100000 in
theorem ju_97_84 : am_ju 97 84 = iCONST 0 :: am_ju 97 85 := rfl
set_option maxRecDepth 100000 in
theorem ju_97_85 : am_ju 97 85 = iST 4 0 :: aLD 0 1 :: bPUSH 64 :: aLD 0 1 :: gR 11 2 16 1020 :: iCONST 0 :: iALD :: iCONST 1 :: iSUB :: CALL 96 3 2 124 1203 :: iST 5 0 :: aLD 0 1 :: gR 11 2 16 1020 :: iLD 1 1 :: iCONST 5 :: iADD :: iLD 4 0 :: IFC 0 105 :: iLD 5 0 :: GOTO 106 :: am_ju 97 105 := rfl
set_option maxRecDepth 100000 in
theorem ju_97_105 : am_ju 97 105 = iCONST 3 :: am_ju 97 106 := rfl
set_option maxRecDepth 100000 in
theorem ju_97_106 : am_ju 97 106 = iAST :: aLD 0 1 :: gR 11 2 16 1020 :: iCONST 1 :: DUP2 :: iALD :: iCONST 1 :: iADD :: iAST :: vRET :: [] := rfl
theorem ju_98_0 : am_ju 98 0 = aLD 0 1 :: CALL 92 1 2 128 1184 :: am_ju 98 2 := rfl
theorem ju_98_2 : am_ju 98 2 = aLD 0 1 :: gI 11 12 101 1030 :: IFC 3 24 :: aLD 0 1 :: gR 11 2 16 1020 :: iCONST 0 :: iALD :: iCONST 3 :: ICMP 3 24 :: aLD 0 1 :: CALL 75 1 2 104 1162 :: bPUSH 44 :: ICMP 1 24 :: aLD 0 1 :: DUP :: gI 11 11 98 1029 :: iCONST 1 :: iADD :: pI 11 11 98 1029 :: aLD 0 1 :: CALL 92 1 2 128 1184 :: GOTO 2 :: am_ju 98 24 := rfl
theorem ju_98_24 : am_ju 98 24 = aLD 0 1 :: bPUSH 59 :: CALL 93 2 2 131 1191 :: aLD 0 1 :: gI 11 12 101 1030 :: IFC 3 32 :: aLD 0 1 :: CALL 97 1 2 134 1195 :: am_ju 98 32 := rfl
theorem ju_98_32 : am_ju 98 32 = aLD 0 1 :: gI 11 12 101 1030 :: IFC 3 54 :: aLD 0 1 :: gR 11 2 16 1020 :: iCONST 1 :: iALD :: bPUSH 8 :: ICMP 3 54 :: aLD 0 1 :: CALL 75 1 2 104 1162 :: bPUSH 44 :: ICMP 1 54 :: aLD 0 1 :: DUP :: gI 11 11 98 1029 :: iCONST 1 :: iADD :: pI 11 11 98 1029 :: aLD 0 1 :: CALL 97 1 2 134 1195 :: GOTO 32 :: am_ju 98 54 := rfl
theorem ju_98_54 : am_ju 98 54 = aLD 0 1 :: CALL 75 1 2 104 1162 :: IFC 2 61 :: aLD 0 1 :: aLD 0 1 :: gI 11 11 98 1029 :: CALL 77 2 2 111 1169 :: am_ju 98 61 := rfl
theorem ju_98_61 : am_ju 98 61 = vRET :: [] := rfl
theorem ju_99_0 : am_ju 99 0 = aLD 0 1 :: gR 11 0 7 1018 :: aLD 0 1 :: gR 11 2 16 1020 :: CALL 90 2 0 137 1177 :: aLD 0 1 :: gR 11 2 16 1020 :: iCONST 0 :: iCONST 0 :: iAST :: aLD 0 1 :: gR 11 2 16 1020 :: iCONST 1 :: iCONST 0 :: iAST :: aLD 0 1 :: gR 11 2 16 1020 :: iCONST 5 :: iCONST 0 :: iAST :: aLD 0 1 :: iCONST 0 :: pI 11 11 98 1029 :: aLD 0 1 :: iCONST (-1) :: pI 11 12 101 1030 :: aLD 0 1 :: CALL 98 1 2 141 1180 :: aLD 0 1 :: iCONST 0 :: pI 11 6 94 1024 :: aLD 0 1 :: gI 11 12 101 1030 :: IFC 2 39 :: bPUSH (-20) :: aLD 0 1 :: gI 11 12 101 1030 :: iSUB :: iRET :: am_ju 99 39 := rfl
theorem ju_99_39 : am_ju 99 39 = aLD 0 1 :: gR 11 2 16 1020 :: aLD 0 1 :: gR 11 0 7 1018 :: CALL 90 2 0 137 1177 :: aLD 0 1 :: gR 11 0 7 1018 :: iCONST 1 :: iALD :: iRET :: [] := rfl
theorem ju_100_0 : am_ju 100 0 = iLD 1 1 :: IFC 2 14 :: iLD 1 1 :: aLD 0 1 :: gI 8 1 15 147 :: ICMP 3 14 :: iLD 1 1 :: bPUSH 20 :: ICMP 3 14 :: aLD 0 1 :: gR 8 0 9 145 :: iLD 1 1 :: iALD :: GOTO 15 :: am_ju 100 14 := rfl
theorem ju_100_14 : am_ju 100 14 = iCONST (-1) :: am_ju 100 15 := rfl
theorem ju_100_15 : am_ju 100 15 = iRET :: [] := rfl
theorem ju_101_0 : am_ju 101 0 = iLD 1 1 :: aLD 0 1 :: gR 10 0 59 390 :: gR 9 1 198 222 :: gI 8 1 201 152 :: CALL 12 2 0 78 428 :: IFC 0 13 :: aLD 0 1 :: gR 10 0 59 390 :: gR 9 1 198 222 :: iLD 1 1 :: CALL 100 2 2 202 645 :: GOTO 14 :: am_ju 101 13 := rfl
theorem ju_101_13 : am_ju 101 13 = iCONST (-1) :: am_ju 101 14 := rfl
theorem ju_101_14 : am_ju 101 14 = iRET :: [] := rfl
theorem ju_102_0 : am_ju 102 0 = iLD 1 1 :: iCONST 0 :: aLD 0 1 :: gR 11 0 7 1018 :: iCONST 2 :: iALD :: iCONST 1 :: iSUB :: CALL 17 3 0 47 1080 :: IFC 0 17 :: aLD 0 1 :: gR 11 0 7 1018 :: bPUSH 66 :: iLD 1 1 :: iADD :: iALD :: GOTO 18 :: am_ju 102 17 := rfl
theorem ju_102_17 : am_ju 102 17 = iCONST (-1) :: am_ju 102 18 := rfl
theorem ju_102_18 : am_ju 102 18 = iRET :: [] := rfl
theorem ju_103_0 : am_ju 103 0 = iCONST 0 :: iST 1 1 :: iCONST 0 :: iST 2 1 :: am_ju 103 4 := rfl
theorem ju_103_4 : am_ju 103 4 = iLD 2 1 :: aLD 0 1 :: gR 9 0 12 216 :: gI 2 7 53 118 :: ICMP 3 24 :: aLD 0 1 :: gR 9 2 28 223 :: gR 3 3 74 174 :: iLD 2 1 :: iALD :: bPUSH 10 :: ICMP 2 22 :: iLD 1 1 :: iCONST 1 :: iLD 2 1 :: iSHL :: iOR :: iST 1 1 :: am_ju 103 22 := rfl
theorem ju_103_22 : am_ju 103 22 = IINC 2 1 :: GOTO 4 :: am_ju 103 24 := rfl
theorem ju_103_24 : am_ju 103 24 = iLD 1 1 :: iRET :: [] := rfl
theorem ju_104_0 : am_ju 104 0 = iCONST 0 :: iST 2 1 :: iLD 1 1 :: iST 3 1 :: am_ju 104 4 := rfl
theorem ju_104_4 : am_ju 104 4 = iLD 3 1 :: aLD 0 1 :: gI 8 1 15 147 :: ICMP 3 16 :: aLD 0 1 :: iLD 3 1 :: CALL 100 2 2 19 662 :: iCONST 3 :: ICMP 1 14 :: IINC 2 1 :: am_ju 104 14 := rfl
theorem ju_104_14 : am_ju 104 14 = IINC 3 1 :: GOTO 4 :: am_ju 104 16 := rfl
theorem ju_104_16 : am_ju 104 16 = iLD 2 1 :: iRET :: [] := rfl
theorem ju_105_0 : am_ju 105 0 = iLD 1 1 :: TSW [0, 6, 41, 2, 7, 12, 17, 22, 27, 32] :: am_ju 105 2 := rfl
theorem ju_105_2 : am_ju 105 2 = aLD 0 1 :: gR 10 0 59 390 :: gR 9 0 82 217 :: gI 2 6 85 114 :: iRET :: am_ju 105 7 := rfl
theorem ju_105_7 : am_ju 105 7 = aLD 0 1 :: gR 10 0 59 390 :: gR 9 0 82 217 :: gI 2 7 93 119 :: iRET :: am_ju 105 12 := rfl
theorem ju_105_12 : am_ju 105 12 = aLD 0 1 :: gR 10 0 59 390 :: gR 9 1 198 222 :: gI 8 1 201 152 :: iRET :: am_ju 105 17 := rfl
theorem ju_105_17 : am_ju 105 17 = aLD 0 1 :: gR 10 0 59 390 :: gR 9 2 107 225 :: gI 3 4 205 179 :: iRET :: am_ju 105 22 := rfl
theorem ju_105_22 : am_ju 105 22 = aLD 0 1 :: gR 10 0 59 390 :: CALL 103 1 2 208 653 :: CALL 55 1 0 211 657 :: iRET :: am_ju 105 27 := rfl
theorem ju_105_27 : am_ju 105 27 = aLD 0 1 :: gR 10 0 59 390 :: gR 9 3 216 227 :: gI 5 2 220 208 :: iRET :: am_ju 105 32 := rfl
theorem ju_105_32 : am_ju 105 32 = aLD 0 1 :: gR 10 0 59 390 :: gR 9 1 198 222 :: aLD 0 1 :: gR 10 0 59 390 :: gR 9 2 107 225 :: gI 3 4 205 179 :: CALL 104 2 2 225 658 :: iRET :: am_ju 105 41 := rfl
theorem ju_105_41 : am_ju 105 41 = iCONST (-1) :: iRET :: [] := rfl
theorem ju_106_0 : am_ju 106 0 = iCONST 0 :: iST 1 1 :: iCONST 0 :: iST 2 1 :: am_ju 106 4 := rfl
theorem ju_106_4 : am_ju 106 4 = iLD 2 1 :: aLD 0 1 :: gR 11 0 7 1018 :: iCONST 1 :: iALD :: ICMP 3 27 :: iLD 1 1 :: aLD 0 1 :: gR 11 0 7 1018 :: iLD 2 1 :: CALL 25 1 0 59 1093 :: iCONST 5 :: iADD :: iALD :: bPUSH 10 :: ICMP 2 22 :: iCONST 1 :: GOTO 23 :: am_ju 106 22 := rfl
theorem ju_106_22 : am_ju 106 22 = iCONST 0 :: am_ju 106 23 := rfl
theorem ju_106_23 : am_ju 106 23 = iADD :: iST 1 1 :: IINC 2 1 :: GOTO 4 :: am_ju 106 27 := rfl
theorem ju_106_27 : am_ju 106 27 = iLD 1 1 :: iRET :: [] := rfl
theorem ju_107_0 : am_ju 107 0 = iCONST 0 :: iST 1 1 :: aLD 0 1 :: gR 11 0 7 1018 :: iCONST 3 :: iALD :: iST 2 1 :: am_ju 107 7 := rfl
theorem ju_107_7 : am_ju 107 7 = iLD 2 1 :: aLD 0 1 :: gR 11 0 7 1018 :: iCONST 2 :: iALD :: ICMP 3 29 :: iLD 1 1 :: aLD 0 1 :: gR 11 0 7 1018 :: bPUSH 66 :: iLD 2 1 :: iADD :: iALD :: iCONST 3 :: ICMP 1 24 :: iCONST 1 :: GOTO 25 :: am_ju 107 24 := rfl
theorem ju_107_24 : am_ju 107 24 = iCONST 0 :: am_ju 107 25 := rfl
theorem ju_107_25 : am_ju 107 25 = iADD :: iST 1 1 :: IINC 2 1 :: GOTO 7 :: am_ju 107 29 := rfl
theorem ju_107_29 : am_ju 107 29 = iLD 1 1 :: iRET :: [] := rfl
theorem ju_108_0 : am_ju 108 0 = iLD 1 1 :: iCONST 0 :: bPUSH 6 :: CALL 17 3 0 47 1080 :: IFC 1 7 :: iCONST (-1) :: iRET :: am_ju 108 7 := rfl
theorem ju_108_7 : am_ju 108 7 = iLD 1 1 :: iCONST 4 :: ICMP 3 15 :: aLD 0 1 :: gR 11 0 7 1018 :: iLD 1 1 :: iALD :: GOTO 31 :: am_ju 108 15 := rfl
theorem ju_108_15 : am_ju 108 15 = iLD 1 1 :: iCONST 4 :: ICMP 1 21 :: aLD 0 1 :: CALL 106 1 2 144 1219 :: GOTO 31 :: am_ju 108 21 := rfl
theorem ju_108_21 : am_ju 108 21 = iLD 1 1 :: iCONST 5 :: ICMP 1 29 :: aLD 0 1 :: gR 11 0 7 1018 :: iCONST 5 :: iALD :: GOTO 31 :: am_ju 108 29 := rfl
theorem ju_108_29 : am_ju 108 29 = aLD 0 1 :: CALL 107 1 2 147 1223 :: am_ju 108 31 := rfl
theorem ju_108_31 : am_ju 108 31 = iRET :: [] := rfl
theorem ju_109_0 : am_ju 109 0 = iCONST 0 :: aLD 0 1 :: gR 9 1 21 220 :: gI 8 1 88 150 :: aLD 0 1 :: gR 9 2 28 223 :: gI 3 4 68 178 :: iSUB :: MMAX 91 671 :: iRET :: [] := rfl
theorem ju_110_0 : am_ju 110 0 = aLD 0 1 :: gR 3 0 9 164 :: aLD 1 1 :: gR 3 0 9 164 :: CALL 71 2 1 38 684 :: aLD 0 1 :: gR 3 1 15 167 :: aLD 1 1 :: gR 3 1 15 167 :: CALL 71 2 1 38 684 :: aLD 0 1 :: gR 3 2 18 170 :: aLD 1 1 :: gR 3 2 18 170 :: CALL 71 2 1 38 684 :: aLD 0 1 :: gR 3 3 21 173 :: aLD 1 1 :: gR 3 3 21 173 :: CALL 71 2 1 38 684 :: aLD 0 1 :: aLD 1 1 :: gI 3 4 24 176 :: pI 3 4 24 176 :: aLD 0 1 :: aLD 1 1 :: gI 3 5 28 180 :: pI 3 5 28 180 :: vRET :: [] := rfl
theorem ju_111_0 : am_ju 111 0 = aLD 0 1 :: gR 5 0 11 204 :: aLD 0 1 :: gI 5 1 17 205 :: aALD :: aLD 1 1 :: CALL 110 2 2 25 680 :: aLD 0 1 :: aLD 0 1 :: gI 5 1 17 205 :: iCONST 1 :: iADD :: bPUSH 8 :: iREM :: pI 5 1 17 205 :: aLD 0 1 :: aLD 0 1 :: gI 5 2 21 206 :: iCONST 1 :: iADD :: bPUSH 8 :: MMIN 29 685 :: pI 5 2 21 206 :: vRET :: [] := rfl
theorem ju_112_0 : am_ju 112 0 = aLD 0 1 :: aLD 0 1 :: gI 3 5 28 180 :: LDC 1103515245 35 691 :: iMUL :: sPUSH 12345 :: iADD :: LDC 2147483647 36 692 :: iAND :: pI 3 5 28 180 :: aLD 0 1 :: gI 3 5 28 180 :: LDC 65536 37 693 :: iDIV :: bPUSH 8 :: iREM :: iRET :: [] := rfl
theorem ju_113_0 : am_ju 113 0 = aLD 0 1 :: iLD 1 1 :: CALL 100 2 2 19 662 :: TSW [1, 3, 10, 4, 6, 8] :: am_ju 113 4 := rfl
theorem ju_113_4 : am_ju 113 4 = iCONST 2 :: iRET :: am_ju 113 6 := rfl
theorem ju_113_6 : am_ju 113 6 = iCONST 3 :: iRET :: am_ju 113 8 := rfl
theorem ju_113_8 : am_ju 113 8 = iLD 2 1 :: iRET :: am_ju 113 10 := rfl
theorem ju_113_10 : am_ju 113 10 = iCONST 0 :: iRET :: [] := rfl
theorem ju_114_0 : am_ju 114 0 = aLD 0 1 :: gI 0 4 24 257 :: IFC 1 4 :: vRET :: am_ju 114 4 := rfl
theorem ju_114_4 : am_ju 114 4 = aLD 0 1 :: sPUSH 999 :: aLD 0 1 :: gI 0 1 15 247 :: aLD 0 1 :: gI 0 6 30 261 :: iADD :: MMIN 77 708 :: pI 0 1 15 247 :: aLD 0 1 :: sPUSH 999 :: aLD 0 1 :: gI 0 2 18 251 :: iLD 1 1 :: iCONST 4 :: ICMP 1 22 :: iCONST 2 :: GOTO 26 :: am_ju 114 22 := rfl
theorem ju_114_22 : am_ju 114 22 = iCONST 1 :: aLD 0 1 :: gI 0 7 33 262 :: iADD :: am_ju 114 26 := rfl
theorem ju_114_26 : am_ju 114 26 = iADD :: MMIN 77 708 :: pI 0 2 18 251 :: vRET :: [] := rfl
theorem ju_115_0 : am_ju 115 0 = iLD 1 1 :: iCONST 4 :: ICMP 1 5 :: iCONST (-1) :: iRET :: am_ju 115 5 := rfl
theorem ju_115_5 : am_ju 115 5 = iCONST 0 :: iST 3 1 :: am_ju 115 7 := rfl
theorem ju_115_7 : am_ju 115 7 = iLD 3 1 :: iCONST 4 :: ICMP 3 27 :: aLD 0 1 :: gI 0 3 21 254 :: iLD 3 1 :: CALL 29 2 1 67 713 :: IFC 1 25 :: aLD 0 1 :: iLD 3 1 :: iLD 2 1 :: CALL 56 3 2 71 714 :: aLD 0 1 :: iLD 3 1 :: CALL 51 2 2 74 715 :: ICMP 5 25 :: iLD 3 1 :: iRET :: am_ju 115 25 := rfl
theorem ju_115_25 : am_ju 115 25 = IINC 3 1 :: GOTO 7 :: am_ju 115 27 := rfl
theorem ju_115_27 : am_ju 115 27 = iCONST (-1) :: iRET :: [] := rfl
theorem ju_116_0 : am_ju 116 0 = iLD 1 1 :: iCONST 3 :: ICMP 1 10 :: aLD 0 1 :: gI 0 4 24 257 :: aLD 0 1 :: gI 0 4 24 257 :: iNEG :: iAND :: iRET :: am_ju 116 10 := rfl
theorem ju_116_10 : am_ju 116 10 = aLD 0 1 :: gI 0 3 21 254 :: CALL 30 1 1 94 720 :: IFC 0 17 :: aLD 0 1 :: gI 0 4 24 257 :: GOTO 18 :: am_ju 116 17 := rfl
theorem ju_116_17 : am_ju 116 17 = iCONST 0 :: am_ju 116 18 := rfl
theorem ju_116_18 : am_ju 116 18 = iRET :: [] := rfl
theorem ju_117_0 : am_ju 117 0 = aLD 0 1 :: gI 0 4 24 257 :: IFC 1 5 :: iCONST 0 :: iRET :: am_ju 117 5 := rfl
theorem ju_117_5 : am_ju 117 5 = aLD 0 1 :: iLD 2 1 :: CALL 114 2 2 80 704 :: aLD 0 1 :: iLD 2 1 :: iLD 3 1 :: CALL 115 3 2 84 709 :: iST 4 0 :: iLD 4 0 :: IFC 3 17 :: iCONST 0 :: iRET :: am_ju 117 17 := rfl
theorem ju_117_17 : am_ju 117 17 = aLD 0 1 :: DUP :: gI 0 3 21 254 :: iCONST 1 :: iLD 4 0 :: iSHL :: iOR :: pI 0 3 21 254 :: aLD 0 1 :: iLD 4 0 :: CALL 116 2 2 87 716 :: iST 5 0 :: iLD 5 0 :: IFC 0 40 :: aLD 0 1 :: aLD 1 1 :: aLD 0 1 :: gI 0 4 24 257 :: iLD 5 0 :: iCONST (-1) :: iXOR :: iAND :: CALL 41 3 2 90 721 :: am_ju 117 40 := rfl
theorem ju_117_40 : am_ju 117 40 = iLD 5 0 :: iRET :: [] := rfl
set_option maxRecDepth 100000 in
theorem ju_118_0 : am_ju 118 0 = aLD 0 1 :: gR 9 3 35 226 :: aLD 0 1 :: gR 9 2 28 223 :: CALL 111 2 2 146 676 :: aLD 0 1 :: gR 9 1 21 220 :: aLD 0 1 :: gR 9 2 28 223 :: gI 3 4 68 178 :: CALL 100 2 2 149 686 :: iST 2 1 :: iLD 2 1 :: iCONST 3 :: ICMP 1 19 :: aLD 0 1 :: gR 9 2 28 223 :: CALL 112 1 2 152 687 :: GOTO 26 :: am_ju 118 19 := rfl
set_option maxRecDepth 100000 in
theorem ju_118_19 : am_ju 118 19 = aLD 0 1 :: gR 9 1 21 220 :: aLD 0 1 :: gR 9 2 28 223 :: gI 3 4 68 178 :: iCONST 0 :: CALL 113 3 2 155 694 :: am_ju 118 26 := rfl
set_option maxRecDepth 100000 in
theorem ju_118_26 : am_ju 118 26 = iST 3 1 :: iCONST 0 :: iST 4 0 :: iCONST 0 :: iST 5 0 :: am_ju 118 31 := rfl
set_option maxRecDepth 100000 in
theorem ju_118_31 : am_ju 118 31 = iLD 5 0 :: aLD 0 1 :: gR 9 0 12 216 :: gI 2 6 39 113 :: ICMP 3 75 :: aLD 0 1 :: aLD 1 1 :: iLD 5 0 :: aLD 0 1 :: iLD 5 0 :: CALL 39 2 2 158 698 :: CALL 42 4 2 161 699 :: iLD 4 0 :: aLD 1 1 :: aLD 0 1 :: gR 9 0 12 216 :: iLD 2 1 :: iLD 3 1 :: CALL 117 4 2 165 700 :: iOR :: iST 4 0 :: aLD 0 1 :: gR 9 2 28 223 :: gR 3 0 130 166 :: iLD 5 0 :: aLD 1 1 :: gI 0 1 133 249 :: iAST :: aLD 0 1 :: gR 9 2 28 223 :: gR 3 1 135 169 :: iLD 5 0 :: aLD 1 1 :: gI 0 2 138 253 :: iAST :: aLD 0 1 :: gR 9 2 28 223 :: gR 3 2 114 172 :: iLD 5 0 :: aLD 1 1 :: gI 0 3 140 256 :: iAST :: IINC 5 1 :: GOTO 31 :: am_ju 118 75 := rfl
set_option maxRecDepth 100000 in
theorem ju_118_75 : am_ju 118 75 = iCONST 0 :: iST 5 0 :: am_ju 118 77 := rfl
set_option maxRecDepth 100000 in
theorem ju_118_77 : am_ju 118 77 = iLD 5 0 :: aLD 0 1 :: gR 9 0 12 216 :: gI 2 7 53 118 :: ICMP 3 98 :: iLD 4 0 :: iLD 5 0 :: CALL 29 2 1 169 722 :: IFC 0 96 :: aLD 0 1 :: gR 9 2 28 223 :: gR 3 3 74 174 :: iLD 5 0 :: bPUSH 10 :: aLD 0 1 :: gR 9 2 28 223 :: gI 3 4 68 178 :: iADD :: iAST :: am_ju 118 96 := rfl
set_option maxRecDepth 100000 in
theorem ju_118_96 : am_ju 118 96 = IINC 5 1 :: GOTO 77 :: am_ju 118 98 := rfl
set_option maxRecDepth 100000 in
theorem ju_118_98 : am_ju 118 98 = aLD 0 1 :: gR 9 2 28 223 :: DUP :: gI 3 4 68 178 :: iCONST 1 :: iADD :: pI 3 4 68 178 :: iLD 4 0 :: iRET :: [] := rfl
theorem ju_119_0 : am_ju 119 0 = aLD 0 1 :: gR 10 0 59 390 :: CALL 109 1 2 228 667 :: IFC 1 6 :: bPUSH (-2) :: iRET :: am_ju 119 6 := rfl
theorem ju_119_6 : am_ju 119 6 = aLD 0 1 :: gR 10 0 59 390 :: aLD 0 1 :: gR 10 5 23 395 :: CALL 118 2 2 231 672 :: iRET :: [] := rfl
set_option maxRecDepth 100000 in
theorem ju_120_0 : am_ju 120 0 = aLD 0 1 :: gR 11 0 7 1018 :: iCONST 5 :: iALD :: bPUSH 8 :: ICMP 1 31 :: bPUSH 86 :: iST 1 1 :: am_ju 120 8 := rfl
set_option maxRecDepth 100000 in
theorem ju_120_8 : am_ju 120 8 = iLD 1 1 :: sPUSH 219 :: ICMP 3 23 :: aLD 0 1 :: gR 11 0 7 1018 :: iLD 1 1 :: aLD 0 1 :: gR 11 0 7 1018 :: iLD 1 1 :: bPUSH 19 :: iADD :: iALD :: iAST :: IINC 1 1 :: GOTO 8 :: am_ju 120 23 := rfl
set_option maxRecDepth 100000 in
theorem ju_120_23 : am_ju 120 23 = aLD 0 1 :: gR 11 0 7 1018 :: iCONST 5 :: DUP2 :: iALD :: iCONST 1 :: iSUB :: iAST :: am_ju 120 31 := rfl
set_option maxRecDepth 100000 in
theorem ju_120_31 : am_ju 120 31 = bPUSH 86 :: bPUSH 19 :: aLD 0 1 :: gR 11 0 7 1018 :: iCONST 5 :: iALD :: iMUL :: iADD :: iST 1 1 :: aLD 0 1 :: gR 11 0 7 1018 :: iLD 1 1 :: aLD 0 1 :: gR 11 0 7 1018 :: iCONST 3 :: iALD :: iAST :: aLD 0 1 :: gR 11 0 7 1018 :: iLD 1 1 :: iCONST 1 :: iADD :: aLD 0 1 :: gR 11 0 7 1018 :: iCONST 4 :: iALD :: iAST :: iCONST 0 :: iST 2 1 :: am_ju 120 60 := rfl
set_option maxRecDepth 100000 in
theorem ju_120_60 : am_ju 120 60 = iLD 2 1 :: iCONST 3 :: ICMP 3 116 :: aLD 0 1 :: gR 11 0 7 1018 :: iLD 1 1 :: iCONST 2 :: iADD :: iCONST 3 :: iLD 2 1 :: iMUL :: iADD :: aLD 0 1 :: gR 11 0 7 1018 :: iLD 2 1 :: CALL 18 1 0 51 1086 :: iCONST 1 :: iADD :: iALD :: iAST :: aLD 0 1 :: gR 11 0 7 1018 :: iLD 1 1 :: iCONST 3 :: iADD :: iCONST 3 :: iLD 2 1 :: iMUL :: iADD :: aLD 0 1 :: gR 11 0 7 1018 :: iLD 2 1 :: CALL 18 1 0 51 1086 :: iCONST 2 :: iADD :: iALD :: iAST :: aLD 0 1 :: gR 11 0 7 1018 :: iLD 1 1 :: iCONST 4 :: iADD :: iCONST 3 :: iLD 2 1 :: iMUL :: iADD :: aLD 0 1 :: gR 11 0 7 1018 :: iLD 2 1 :: CALL 18 1 0 51 1086 :: iCONST 3 :: iADD :: iALD :: iAST :: IINC 2 1 :: GOTO 60 :: am_ju 120 116 := rfl
set_option maxRecDepth 100000 in
theorem ju_120_116 : am_ju 120 116 = iCONST 0 :: iST 2 1 :: am_ju 120 118 := rfl
set_option maxRecDepth 100000 in
theorem ju_120_118 : am_ju 120 118 = iLD 2 1 :: bPUSH 8 :: ICMP 3 138 :: aLD 0 1 :: gR 11 0 7 1018 :: iLD 1 1 :: bPUSH 11 :: iADD :: iLD 2 1 :: iADD :: aLD 0 1 :: gR 11 0 7 1018 :: iLD 2 1 :: CALL 25 1 0 59 1093 :: iCONST 5 :: iADD :: iALD :: iAST :: IINC 2 1 :: GOTO 118 :: am_ju 120 138 := rfl
set_option maxRecDepth 100000 in
theorem ju_120_138 : am_ju 120 138 = aLD 0 1 :: gR 11 0 7 1018 :: iCONST 5 :: DUP2 :: iALD :: iCONST 1 :: iADD :: iAST :: vRET :: [] := rfl
theorem ju_121_0 : am_ju 121 0 = iLD 0 1 :: iLD 1 1 :: ICMP 3 5 :: iLD 0 1 :: GOTO 6 :: am_ju 121 5 := rfl
theorem ju_121_5 : am_ju 121 5 = iLD 1 1 :: am_ju 121 6 := rfl
theorem ju_121_6 : am_ju 121 6 = iRET :: [] := rfl
theorem ju_122_0 : am_ju 122 0 = iLD 1 1 :: CALL 18 1 0 51 1086 :: iST 3 1 :: aLD 0 1 :: iLD 3 1 :: iCONST 1 :: iADD :: sPUSH 999 :: aLD 0 1 :: iLD 3 1 :: iCONST 1 :: iADD :: iALD :: aLD 0 1 :: iLD 1 1 :: iCONST 1 :: CALL 46 3 0 80 1126 :: iADD :: CALL 121 2 0 150 1246 :: iAST :: aLD 0 1 :: iLD 3 1 :: iCONST 2 :: iADD :: sPUSH 999 :: aLD 0 1 :: iLD 3 1 :: iCONST 2 :: iADD :: iALD :: iLD 2 1 :: iCONST 4 :: ICMP 1 35 :: iCONST 2 :: GOTO 41 :: am_ju 122 35 := rfl
theorem ju_122_35 : am_ju 122 35 = iCONST 1 :: aLD 0 1 :: iLD 1 1 :: iCONST 2 :: CALL 46 3 0 80 1126 :: iADD :: am_ju 122 41 := rfl
theorem ju_122_41 : am_ju 122 41 = iADD :: CALL 121 2 0 150 1246 :: iAST :: vRET :: [] := rfl
theorem ju_123_0 : am_ju 123 0 = iCONST 0 :: iST 3 1 :: am_ju 123 2 := rfl
theorem ju_123_2 : am_ju 123 2 = iLD 3 1 :: iCONST 4 :: ICMP 3 34 :: aLD 0 1 :: iLD 1 1 :: CALL 18 1 0 51 1086 :: iCONST 3 :: iADD :: iALD :: iLD 3 1 :: CALL 34 2 0 62 1112 :: IFC 1 16 :: iCONST 1 :: GOTO 17 :: am_ju 123 16 := rfl
theorem ju_123_16 : am_ju 123 16 = iCONST 0 :: am_ju 123 17 := rfl
theorem ju_123_17 : am_ju 123 17 = iST 4 0 :: iLD 4 0 :: IFC 0 32 :: aLD 0 1 :: iLD 1 1 :: iLD 3 1 :: iLD 2 1 :: CALL 58 4 0 90 1143 :: aLD 0 1 :: iLD 1 1 :: iLD 3 1 :: CALL 53 3 0 87 1136 :: ICMP 5 32 :: iLD 3 1 :: iRET :: am_ju 123 32 := rfl
theorem ju_123_32 : am_ju 123 32 = IINC 3 1 :: GOTO 2 :: am_ju 123 34 := rfl
theorem ju_123_34 : am_ju 123 34 = iCONST (-1) :: iRET :: [] := rfl
theorem ju_124_0 : am_ju 124 0 = aLD 0 1 :: iLD 1 1 :: CALL 45 2 0 76 1123 :: iST 3 1 :: iLD 2 1 :: iCONST 3 :: ICMP 1 12 :: iLD 3 1 :: iLD 3 1 :: iNEG :: iAND :: iRET :: am_ju 124 12 := rfl
theorem ju_124_12 : am_ju 124 12 = aLD 0 1 :: iLD 1 1 :: CALL 18 1 0 51 1086 :: iCONST 3 :: iADD :: iALD :: iST 4 0 :: iLD 4 0 :: iCONST 0 :: CALL 34 2 0 62 1112 :: IFC 1 31 :: iLD 4 0 :: iCONST 1 :: CALL 34 2 0 62 1112 :: IFC 0 33 :: iLD 4 0 :: iCONST 2 :: CALL 34 2 0 62 1112 :: IFC 0 33 :: am_ju 124 31 := rfl
theorem ju_124_31 : am_ju 124 31 = iLD 3 1 :: GOTO 34 :: am_ju 124 33 := rfl
theorem ju_124_33 : am_ju 124 33 = iCONST 0 :: am_ju 124 34 := rfl
theorem ju_124_34 : am_ju 124 34 = iRET :: [] := rfl
set_option maxRecDepth 100000 in
theorem ju_125_0 : am_ju 125 0 = aLD 1 1 :: bPUSH 66 :: aLD 1 1 :: iCONST 3 :: iALD :: iADD :: iALD :: iST 3 1 :: iLD 3 1 :: iCONST 1 :: ICMP 1 13 :: iCONST 2 :: GOTO 24 :: am_ju 125 13 := rfl
set_option maxRecDepth 100000 in
theorem ju_125_13 : am_ju 125 13 = iLD 3 1 :: iCONST 2 :: ICMP 1 18 :: iCONST 3 :: GOTO 24 :: am_ju 125 18 := rfl
set_option maxRecDepth 100000 in
theorem ju_125_18 : am_ju 125 18 = iLD 3 1 :: iCONST 3 :: ICMP 1 23 :: iLD 2 1 :: GOTO 24 :: am_ju 125 23 := rfl
set_option maxRecDepth 100000 in
theorem ju_125_23 : am_ju 125 23 = iCONST 0 :: am_ju 125 24 := rfl
set_option maxRecDepth 100000 in
theorem ju_125_24 : am_ju 125 24 = iST 4 0 :: aLD 0 1 :: iCONST 0 :: pZ 11 13 153 1031 :: aLD 0 1 :: iCONST 0 :: pI 11 15 157 1033 :: iCONST 0 :: iST 5 0 :: iCONST 0 :: iST 6 0 :: am_ju 125 35 := rfl
set_option maxRecDepth 100000 in
theorem ju_125_35 : am_ju 125 35 = iLD 6 0 :: aLD 1 1 :: iCONST 0 :: iALD :: ICMP 3 127 :: aLD 1 1 :: iLD 6 0 :: CALL 45 2 0 76 1123 :: IFC 0 125 :: aLD 1 1 :: iLD 6 0 :: iLD 3 1 :: CALL 122 3 0 160 1243 :: iLD 3 1 :: iCONST 4 :: ICMP 1 53 :: iCONST (-1) :: GOTO 57 :: am_ju 125 53 := rfl
set_option maxRecDepth 100000 in
theorem ju_125_53 : am_ju 125 53 = aLD 1 1 :: iLD 6 0 :: iLD 4 0 :: CALL 123 3 0 164 1249 :: am_ju 125 57 := rfl
set_option maxRecDepth 100000 in
theorem ju_125_57 : am_ju 125 57 = iST 7 0 :: iLD 7 0 :: IFC 2 125 :: aLD 0 1 :: iCONST 1 :: pZ 11 13 153 1031 :: aLD 1 1 :: iLD 6 0 :: CALL 18 1 0 51 1086 :: iCONST 3 :: iADD :: DUP2 :: iALD :: iCONST 1 :: iLD 7 0 :: iSHL :: iOR :: iAST :: aLD 1 1 :: iLD 6 0 :: iLD 7 0 :: CALL 124 3 0 167 1252 :: iST 8 0 :: aLD 0 1 :: iLD 6 0 :: aLD 0 1 :: gI 11 14 170 1032 :: ICMP 1 87 :: iLD 8 0 :: GOTO 89 :: am_ju 125 87 := rfl
set_option maxRecDepth 100000 in
theorem ju_125_87 : am_ju 125 87 = aLD 0 1 :: gI 11 15 157 1033 :: am_ju 125 89 := rfl
set_option maxRecDepth 100000 in
theorem ju_125_89 : am_ju 125 89 = pI 11 15 157 1033 :: iLD 5 0 :: iLD 8 0 :: iOR :: iST 5 0 :: iCONST 0 :: iST 9 0 :: am_ju 125 96 := rfl
set_option maxRecDepth 100000 in
theorem ju_125_96 : am_ju 125 96 = iLD 9 0 :: aLD 1 1 :: iCONST 1 :: iALD :: ICMP 3 125 :: aLD 1 1 :: iLD 9 0 :: CALL 25 1 0 59 1093 :: iCONST 5 :: iADD :: iLD 8 0 :: iLD 9 0 :: CALL 34 2 0 62 1112 :: IFC 0 116 :: bPUSH 10 :: aLD 1 1 :: iCONST 3 :: iALD :: iADD :: GOTO 122 :: am_ju 125 116 := rfl
set_option maxRecDepth 100000 in
theorem ju_125_116 : am_ju 125 116 = aLD 1 1 :: iLD 9 0 :: CALL 25 1 0 59 1093 :: iCONST 5 :: iADD :: iALD :: am_ju 125 122 := rfl
set_option maxRecDepth 100000 in
theorem ju_125_122 : am_ju 125 122 = iAST :: IINC 9 1 :: GOTO 96 :: am_ju 125 125 := rfl
set_option maxRecDepth 100000 in
theorem ju_125_125 : am_ju 125 125 = IINC 6 1 :: GOTO 35 :: am_ju 125 127 := rfl
set_option maxRecDepth 100000 in
theorem ju_125_127 : am_ju 125 127 = aLD 1 1 :: iCONST 3 :: DUP2 :: iALD :: iCONST 1 :: iADD :: iAST :: iLD 5 0 :: iRET :: [] := rfl
theorem ju_126_0 : am_ju 126 0 = aLD 0 1 :: gR 11 0 7 1018 :: iCONST 3 :: iALD :: aLD 0 1 :: gR 11 0 7 1018 :: iCONST 2 :: iALD :: ICMP 1 11 :: bPUSH (-2) :: iRET :: am_ju 126 11 := rfl
theorem ju_126_11 : am_ju 126 11 = aLD 0 1 :: CALL 120 1 2 173 1231 :: iCONST 0 :: iST 1 1 :: aLD 0 1 :: gR 11 0 7 1018 :: bPUSH 66 :: aLD 0 1 :: gR 11 0 7 1018 :: iCONST 3 :: iALD :: iADD :: iALD :: iCONST 3 :: ICMP 1 51 :: aLD 0 1 :: gR 11 0 7 1018 :: iCONST 4 :: aLD 0 1 :: gR 11 0 7 1018 :: iCONST 4 :: iALD :: ITL :: LDC2 1103515245 176 1235 :: lMUL :: LDC2 12345 178 1236 :: lADD :: LDC2 2147483647 180 1237 :: lAND :: LTI :: iAST :: aLD 0 1 :: gR 11 0 7 1018 :: iCONST 4 :: iALD :: LDC 65536 182 1238 :: iDIV :: bPUSH 8 :: iREM :: iST 1 1 :: am_ju 126 51 := rfl
theorem ju_126_51 : am_ju 126 51 = aLD 0 1 :: iCONST (-1) :: pI 11 14 170 1032 :: aLD 0 1 :: aLD 0 1 :: gR 11 0 7 1018 :: iLD 1 1 :: CALL 125 3 2 183 1239 :: iRET :: [] := rfl
theorem ju_127_0 : am_ju 127 0 = aLD 0 1 :: gI 5 2 21 206 :: IFC 1 4 :: vRET :: am_ju 127 4 := rfl
theorem ju_127_4 : am_ju 127 4 = aLD 0 1 :: aLD 0 1 :: gI 5 1 17 205 :: bPUSH 8 :: iADD :: iCONST 1 :: iSUB :: bPUSH 8 :: iREM :: pI 5 1 17 205 :: aLD 0 1 :: DUP :: gI 5 2 21 206 :: iCONST 1 :: iSUB :: pI 5 2 21 206 :: aLD 1 1 :: aLD 0 1 :: gR 5 0 11 204 :: aLD 0 1 :: gI 5 1 17 205 :: aALD :: CALL 110 2 2 25 680 :: vRET :: [] := rfl
theorem ju_128_0 : am_ju 128 0 = aLD 0 1 :: gR 10 0 59 390 :: gR 9 3 216 227 :: gI 5 2 220 208 :: IFC 1 7 :: bPUSH (-4) :: iRET :: am_ju 128 7 := rfl
theorem ju_128_7 : am_ju 128 7 = aLD 0 1 :: gR 10 0 59 390 :: gR 9 3 216 227 :: aLD 0 1 :: gR 10 0 59 390 :: gR 9 2 107 225 :: CALL 127 2 2 235 727 :: aLD 0 1 :: gR 10 0 59 390 :: gR 9 3 216 227 :: gI 5 2 220 208 :: iRET :: [] := rfl
set_option maxRecDepth 100000 in
theorem ju_129_0 : am_ju 129 0 = aLD 0 1 :: gR 11 0 7 1018 :: iCONST 5 :: iALD :: IFC 1 7 :: bPUSH (-4) :: iRET :: am_ju 129 7 := rfl
set_option maxRecDepth 100000 in
theorem ju_129_7 : am_ju 129 7 = aLD 0 1 :: gR 11 0 7 1018 :: iCONST 5 :: DUP2 :: iALD :: iCONST 1 :: iSUB :: iAST :: bPUSH 86 :: bPUSH 19 :: aLD 0 1 :: gR 11 0 7 1018 :: iCONST 5 :: iALD :: iMUL :: iADD :: iST 1 1 :: aLD 0 1 :: gR 11 0 7 1018 :: iCONST 3 :: aLD 0 1 :: gR 11 0 7 1018 :: iLD 1 1 :: iALD :: iAST :: aLD 0 1 :: gR 11 0 7 1018 :: iCONST 4 :: aLD 0 1 :: gR 11 0 7 1018 :: iLD 1 1 :: iCONST 1 :: iADD :: iALD :: iAST :: iCONST 0 :: iST 2 1 :: am_ju 129 44 := rfl
set_option maxRecDepth 100000 in
theorem ju_129_44 : am_ju 129 44 = iLD 2 1 :: iCONST 3 :: ICMP 3 100 :: aLD 0 1 :: gR 11 0 7 1018 :: iLD 2 1 :: CALL 18 1 0 51 1086 :: iCONST 1 :: iADD :: aLD 0 1 :: gR 11 0 7 1018 :: iLD 1 1 :: iCONST 2 :: iADD :: iCONST 3 :: iLD 2 1 :: iMUL :: iADD :: iALD :: iAST :: aLD 0 1 :: gR 11 0 7 1018 :: iLD 2 1 :: CALL 18 1 0 51 1086 :: iCONST 2 :: iADD :: aLD 0 1 :: gR 11 0 7 1018 :: iLD 1 1 :: iCONST 3 :: iADD :: iCONST 3 :: iLD 2 1 :: iMUL :: iADD :: iALD :: iAST :: aLD 0 1 :: gR 11 0 7 1018 :: iLD 2 1 :: CALL 18 1 0 51 1086 :: iCONST 3 :: iADD :: aLD 0 1 :: gR 11 0 7 1018 :: iLD 1 1 :: iCONST 4 :: iADD :: iCONST 3 :: iLD 2 1 :: iMUL :: iADD :: iALD :: iAST :: IINC 2 1 :: GOTO 44 :: am_ju 129 100 := rfl
set_option maxRecDepth 100000 in
theorem ju_129_100 : am_ju 129 100 = iCONST 0 :: iST 2 1 :: am_ju 129 102 := rfl
set_option maxRecDepth 100000 in
theorem ju_129_102 : am_ju 129 102 = iLD 2 1 :: bPUSH 8 :: ICMP 3 122 :: aLD 0 1 :: gR 11 0 7 1018 :: iLD 2 1 :: CALL 25 1 0 59 1093 :: iCONST 5 :: iADD :: aLD 0 1 :: gR 11 0 7 1018 :: iLD 1 1 :: bPUSH 11 :: iADD :: iLD 2 1 :: iADD :: iALD :: iAST :: IINC 2 1 :: GOTO 102 :: am_ju 129 122 := rfl
set_option maxRecDepth 100000 in
theorem ju_129_122 : am_ju 129 122 = aLD 0 1 :: gR 11 0 7 1018 :: iCONST 5 :: iALD :: iRET :: [] := rfl
theorem ju_130_0 : am_ju 130 0 = aLD 0 1 :: gR 10 0 59 390 :: gR 9 2 107 225 :: gI 3 4 205 179 :: iST 1 1 :: aLD 0 1 :: gR 10 0 59 390 :: gR 9 2 107 225 :: iCONST 0 :: pI 3 4 205 179 :: iLD 1 1 :: iRET :: [] := rfl
theorem ju_131_0 : am_ju 131 0 = aLD 0 1 :: gR 11 0 7 1018 :: iCONST 3 :: iALD :: iST 1 1 :: aLD 0 1 :: gR 11 0 7 1018 :: iCONST 3 :: iCONST 0 :: iAST :: iLD 1 1 :: iRET :: [] := rfl
theorem ju_132_0 : am_ju 132 0 = iLD 1 1 :: IFC 3 4 :: iCONST (-1) :: iRET :: am_ju 132 4 := rfl
theorem ju_132_4 : am_ju 132 4 = aLD 0 1 :: gR 10 0 59 390 :: gR 9 2 107 225 :: gI 3 5 239 181 :: iST 2 1 :: aLD 0 1 :: gR 10 0 59 390 :: gR 9 2 107 225 :: iLD 1 1 :: pI 3 5 239 181 :: iLD 2 1 :: iRET :: [] := rfl
theorem ju_133_0 : am_ju 133 0 = iLD 1 1 :: IFC 3 4 :: iCONST (-1) :: iRET :: am_ju 133 4 := rfl
theorem ju_133_4 : am_ju 133 4 = aLD 0 1 :: gR 11 0 7 1018 :: iCONST 4 :: iALD :: iST 2 1 :: aLD 0 1 :: gR 11 0 7 1018 :: iCONST 4 :: iLD 1 1 :: iAST :: iLD 2 1 :: iRET :: [] := rfl
theorem ju_134_0 : am_ju 134 0 = aLD 0 1 :: gI 0 4 24 257 :: IFC 1 5 :: bPUSH 99 :: iRET :: am_ju 134 5 := rfl
theorem ju_134_5 : am_ju 134 5 = iLD 2 1 :: iST 4 0 :: am_ju 134 7 := rfl
theorem ju_134_7 : am_ju 134 7 = iLD 4 0 :: aLD 1 1 :: gI 8 1 98 151 :: ICMP 3 30 :: aLD 1 1 :: iLD 4 0 :: CALL 100 2 2 103 753 :: iST 5 0 :: aLD 0 1 :: iLD 5 0 :: CALL 114 2 2 80 704 :: aLD 0 1 :: iLD 5 0 :: aLD 1 1 :: iLD 4 0 :: iLD 3 1 :: CALL 113 3 2 106 754 :: CALL 115 3 2 84 709 :: IFC 2 28 :: iLD 4 0 :: iRET :: am_ju 134 28 := rfl
theorem ju_134_28 : am_ju 134 28 = IINC 4 1 :: GOTO 7 :: am_ju 134 30 := rfl
theorem ju_134_30 : am_ju 134 30 = bPUSH 99 :: iRET :: [] := rfl
theorem ju_135_0 : am_ju 135 0 = bPUSH 99 :: iST 3 1 :: iCONST 0 :: iST 4 0 :: am_ju 135 4 := rfl
theorem ju_135_4 : am_ju 135 4 = iLD 4 0 :: aLD 0 1 :: gR 4 0 44 334 :: gR 9 0 71 218 :: gI 2 6 75 115 :: ICMP 3 43 :: aLD 0 1 :: gR 4 0 44 334 :: aLD 0 1 :: gR 4 1 12 335 :: iLD 4 0 :: aLD 0 1 :: gR 4 0 44 334 :: iLD 4 0 :: CALL 39 2 2 80 747 :: CALL 42 4 2 48 748 :: iLD 4 0 :: iLD 2 1 :: ICMP 1 27 :: aLD 0 1 :: gR 4 1 12 335 :: iCONST 1 :: pI 0 0 84 244 :: am_ju 135 27 := rfl
theorem ju_135_27 : am_ju 135 27 = iLD 3 1 :: aLD 0 1 :: gR 4 1 12 335 :: aLD 0 1 :: gR 4 0 44 334 :: gR 9 1 54 221 :: aLD 0 1 :: gR 4 0 44 334 :: gR 9 2 58 224 :: gI 3 4 62 177 :: iLD 1 1 :: CALL 134 4 2 67 749 :: MMIN 87 755 :: iST 3 1 :: IINC 4 1 :: GOTO 4 :: am_ju 135 43 := rfl
theorem ju_135_43 : am_ju 135 43 = iLD 3 1 :: iRET :: [] := rfl
theorem ju_136_0 : am_ju 136 0 = iLD 0 1 :: bPUSH 99 :: ICMP 1 5 :: bPUSH (-4) :: GOTO 6 :: am_ju 136 5 := rfl
theorem ju_136_5 : am_ju 136 5 = iLD 0 1 :: am_ju 136 6 := rfl
theorem ju_136_6 : am_ju 136 6 = iRET :: [] := rfl
theorem ju_137_0 : am_ju 137 0 = iLD 1 1 :: bPUSH 8 :: CALL 12 2 0 78 428 :: IFC 1 6 :: iCONST (-1) :: iRET :: am_ju 137 6 := rfl
theorem ju_137_6 : am_ju 137 6 = aLD 0 1 :: gR 10 3 67 393 :: iLD 1 1 :: bPUSH (-4) :: CALL 135 3 2 242 743 :: CALL 136 1 0 245 756 :: iRET :: [] := rfl
theorem ju_138_0 : am_ju 138 0 = aLD 0 1 :: gR 11 1 13 1019 :: iCONST 3 :: iALD :: aLD 0 1 :: gR 11 1 13 1019 :: iCONST 2 :: iALD :: ICMP 3 25 :: aLD 0 1 :: aLD 0 1 :: gR 11 1 13 1019 :: iLD 1 1 :: CALL 125 3 2 183 1239 :: POP :: aLD 0 1 :: gI 11 13 153 1031 :: IFC 0 0 :: aLD 0 1 :: gR 11 1 13 1019 :: iCONST 3 :: iALD :: iCONST 1 :: iSUB :: iRET :: am_ju 138 25 := rfl
theorem ju_138_25 : am_ju 138 25 = aLD 0 1 :: gR 11 1 13 1019 :: iCONST 2 :: iALD :: iRET :: [] := rfl
theorem ju_139_0 : am_ju 139 0 = iLD 1 1 :: aLD 0 1 :: gR 11 0 7 1018 :: iCONST 2 :: iALD :: ICMP 1 8 :: bPUSH (-4) :: GOTO 9 :: am_ju 139 8 := rfl
theorem ju_139_8 : am_ju 139 8 = iLD 1 1 :: am_ju 139 9 := rfl
theorem ju_139_9 : am_ju 139 9 = iRET :: [] := rfl
theorem ju_140_0 : am_ju 140 0 = iLD 1 1 :: iCONST 0 :: bPUSH 7 :: CALL 17 3 0 47 1080 :: IFC 1 7 :: iCONST (-1) :: iRET :: am_ju 140 7 := rfl
theorem ju_140_7 : am_ju 140 7 = aLD 0 1 :: gR 11 0 7 1018 :: aLD 0 1 :: gR 11 1 13 1019 :: CALL 90 2 0 137 1177 :: aLD 0 1 :: aLD 0 1 :: iLD 1 1 :: CALL 138 2 2 186 1271 :: CALL 139 2 2 189 1275 :: iRET :: [] := rfl
theorem ju_141_0 : am_ju 141 0 = iCONST 0 :: iST 1 1 :: am_ju 141 2 := rfl
theorem ju_141_2 : am_ju 141 2 = iLD 1 1 :: bPUSH 8 :: ICMP 3 14 :: aLD 0 1 :: iCONST 3 :: iLD 1 1 :: CALL 115 3 2 84 709 :: IFC 2 12 :: iLD 1 1 :: iRET :: am_ju 141 12 := rfl
theorem ju_141_12 : am_ju 141 12 = IINC 1 1 :: GOTO 2 :: am_ju 141 14 := rfl
theorem ju_141_14 : am_ju 141 14 = bPUSH 8 :: iRET :: [] := rfl
theorem ju_142_0 : am_ju 142 0 = aLD 0 1 :: gR 4 0 44 334 :: gR 9 1 54 221 :: aST 2 1 :: aLD 0 1 :: gR 4 0 44 334 :: aLD 0 1 :: gR 4 1 12 335 :: iLD 1 1 :: aLD 0 1 :: gR 4 0 44 334 :: iLD 1 1 :: CALL 39 2 2 80 747 :: CALL 42 4 2 48 748 :: aLD 0 1 :: gR 4 0 44 334 :: gR 9 2 58 224 :: gI 3 4 62 177 :: iST 3 1 :: am_ju 142 19 := rfl
theorem ju_142_19 : am_ju 142 19 = iLD 3 1 :: aLD 2 1 :: gI 8 1 106 149 :: ICMP 3 63 :: aLD 2 1 :: iLD 3 1 :: CALL 100 2 2 97 767 :: iST 4 0 :: aLD 0 1 :: gR 4 1 12 335 :: iLD 4 0 :: CALL 114 2 2 109 772 :: iLD 4 0 :: iCONST 3 :: ICMP 1 47 :: aLD 0 1 :: gR 4 3 22 338 :: iLD 3 1 :: aLD 0 1 :: gR 4 3 22 338 :: iLD 3 1 :: iALD :: aLD 0 1 :: gR 4 1 12 335 :: CALL 141 1 2 112 773 :: MMIN 87 755 :: iAST :: GOTO 61 :: am_ju 142 47 := rfl
theorem ju_142_47 : am_ju 142 47 = aLD 0 1 :: gR 4 1 12 335 :: iLD 4 0 :: aLD 2 1 :: iLD 3 1 :: iCONST 0 :: CALL 113 3 2 116 777 :: CALL 115 3 2 119 778 :: IFC 2 61 :: aLD 0 1 :: gR 4 3 22 338 :: iLD 3 1 :: iCONST 0 :: iAST :: am_ju 142 61 := rfl
theorem ju_142_61 : am_ju 142 61 = IINC 3 1 :: GOTO 19 :: am_ju 142 63 := rfl
theorem ju_142_63 : am_ju 142 63 = vRET :: [] := rfl
theorem ju_143_0 : am_ju 143 0 = aLD 0 1 :: gR 4 0 44 334 :: gR 9 1 54 221 :: aST 1 1 :: iCONST 0 :: iST 2 1 :: am_ju 143 6 := rfl
theorem ju_143_6 : am_ju 143 6 = iLD 2 1 :: bPUSH 20 :: ICMP 3 23 :: aLD 0 1 :: gR 4 3 22 338 :: iLD 2 1 :: aLD 1 1 :: iLD 2 1 :: CALL 100 2 2 97 767 :: iCONST 3 :: ICMP 1 19 :: bPUSH 8 :: GOTO 20 :: am_ju 143 19 := rfl
theorem ju_143_19 : am_ju 143 19 = iCONST 1 :: am_ju 143 20 := rfl
theorem ju_143_20 : am_ju 143 20 = iAST :: IINC 2 1 :: GOTO 6 :: am_ju 143 23 := rfl
theorem ju_143_23 : am_ju 143 23 = iCONST 0 :: iST 2 1 :: am_ju 143 25 := rfl
theorem ju_143_25 : am_ju 143 25 = iLD 2 1 :: aLD 0 1 :: gR 4 0 44 334 :: gR 9 0 71 218 :: gI 2 6 75 115 :: ICMP 3 36 :: aLD 0 1 :: iLD 2 1 :: CALL 142 2 2 102 768 :: IINC 2 1 :: GOTO 25 :: am_ju 143 36 := rfl
theorem ju_143_36 : am_ju 143 36 = iCONST 1 :: iST 2 1 :: aLD 0 1 :: gR 4 0 44 334 :: gR 9 2 58 224 :: gI 3 4 62 177 :: iST 3 1 :: am_ju 143 43 := rfl
theorem ju_143_43 : am_ju 143 43 = iLD 3 1 :: aLD 1 1 :: gI 8 1 106 149 :: ICMP 3 56 :: iLD 2 1 :: aLD 0 1 :: gR 4 3 22 338 :: iLD 3 1 :: iALD :: iMUL :: iST 2 1 :: IINC 3 1 :: GOTO 43 :: am_ju 143 56 := rfl
theorem ju_143_56 : am_ju 143 56 = iLD 2 1 :: iRET :: [] := rfl
theorem ju_144_0 : am_ju 144 0 = iLD 1 1 :: iCONST 2 :: CALL 12 2 0 78 428 :: IFC 1 6 :: iCONST (-1) :: iRET :: am_ju 144 6 := rfl
theorem ju_144_6 : am_ju 144 6 = aLD 0 1 :: gR 10 0 59 390 :: gR 9 1 198 222 :: aLD 0 1 :: gR 10 0 59 390 :: gR 9 2 107 225 :: gI 3 4 205 179 :: CALL 104 2 2 225 658 :: iST 2 1 :: iLD 2 1 :: iCONST 4 :: ICMP 5 20 :: bPUSH (-3) :: iRET :: am_ju 144 20 := rfl
theorem ju_144_20 : am_ju 144 20 = aLD 0 1 :: gR 10 3 67 393 :: CALL 143 1 2 248 763 :: iST 3 1 :: iCONST 1 :: iCONST 3 :: iLD 2 1 :: iMUL :: iSHL :: iST 4 0 :: am_ju 144 30 := rfl
theorem ju_144_30 : am_ju 144 30 = iLD 4 0 :: iCONST 1 :: ICMP 5 46 :: iLD 3 1 :: iCONST 2 :: iREM :: IFC 1 46 :: iLD 3 1 :: iCONST 2 :: iDIV :: iST 3 1 :: iLD 4 0 :: iCONST 2 :: iDIV :: iST 4 0 :: GOTO 30 :: am_ju 144 46 := rfl
theorem ju_144_46 : am_ju 144 46 = iLD 1 1 :: IFC 1 50 :: iLD 3 1 :: GOTO 51 :: am_ju 144 50 := rfl
theorem ju_144_50 : am_ju 144 50 = iLD 4 0 :: am_ju 144 51 := rfl
theorem ju_144_51 : am_ju 144 51 = iRET :: [] := rfl
theorem ju_145_0 : am_ju 145 0 = aLD 0 1 :: gR 11 0 7 1018 :: aLD 0 1 :: gR 11 1 13 1019 :: CALL 90 2 0 137 1177 :: iLD 1 1 :: iST 2 1 :: am_ju 145 7 := rfl
theorem ju_145_7 : am_ju 145 7 = aLD 0 1 :: gR 11 1 13 1019 :: iCONST 3 :: iALD :: aLD 0 1 :: gR 11 1 13 1019 :: iCONST 2 :: iALD :: ICMP 3 53 :: aLD 0 1 :: gR 11 1 13 1019 :: bPUSH 66 :: aLD 0 1 :: gR 11 1 13 1019 :: iCONST 3 :: iALD :: iADD :: iALD :: iCONST 3 :: ICMP 1 29 :: iCONST 1 :: GOTO 30 :: am_ju 145 29 := rfl
theorem ju_145_29 : am_ju 145 29 = iCONST 0 :: am_ju 145 30 := rfl
theorem ju_145_30 : am_ju 145 30 = iST 3 1 :: aLD 0 1 :: aLD 0 1 :: gR 11 1 13 1019 :: iLD 2 1 :: bPUSH 8 :: iREM :: CALL 125 3 2 183 1239 :: POP :: iLD 3 1 :: IFC 0 45 :: iLD 2 1 :: bPUSH 8 :: iDIV :: GOTO 46 :: am_ju 145 45 := rfl
theorem ju_145_45 : am_ju 145 45 = iLD 2 1 :: am_ju 145 46 := rfl
theorem ju_145_46 : am_ju 145 46 = iST 2 1 :: aLD 0 1 :: gI 11 13 153 1031 :: IFC 0 52 :: iCONST 0 :: zRET :: am_ju 145 52 := rfl
theorem ju_145_52 : am_ju 145 52 = GOTO 7 :: am_ju 145 53 := rfl
theorem ju_145_53 : am_ju 145 53 = iCONST 1 :: zRET :: [] := rfl
theorem ju_146_0 : am_ju 146 0 = iLD 1 1 :: iCONST 0 :: iCONST 1 :: CALL 17 3 0 47 1080 :: IFC 1 7 :: iCONST (-1) :: iRET :: am_ju 146 7 := rfl
theorem ju_146_7 : am_ju 146 7 = aLD 0 1 :: CALL 107 1 2 147 1223 :: iST 2 1 :: iLD 2 1 :: iCONST 4 :: ICMP 5 15 :: bPUSH (-3) :: iRET :: am_ju 146 15 := rfl
theorem ju_146_15 : am_ju 146 15 = iCONST 1 :: iCONST 3 :: iLD 2 1 :: iMUL :: iSHL :: iST 3 1 :: iCONST 0 :: iST 4 0 :: iCONST 0 :: iST 5 0 :: am_ju 146 25 := rfl
theorem ju_146_25 : am_ju 146 25 = iLD 5 0 :: iLD 3 1 :: ICMP 3 40 :: iLD 4 0 :: aLD 0 1 :: iLD 5 0 :: CALL 145 2 2 192 1283 :: IFC 0 35 :: iCONST 1 :: GOTO 36 :: am_ju 146 35 := rfl
theorem ju_146_35 : am_ju 146 35 = iCONST 0 :: am_ju 146 36 := rfl
theorem ju_146_36 : am_ju 146 36 = iADD :: iST 4 0 :: IINC 5 1 :: GOTO 25 :: am_ju 146 40 := rfl
theorem ju_146_40 : am_ju 146 40 = iLD 4 0 :: iST 5 0 :: iLD 3 1 :: iST 6 0 :: am_ju 146 44 := rfl
theorem ju_146_44 : am_ju 146 44 = iLD 6 0 :: IFC 0 55 :: iLD 5 0 :: iLD 6 0 :: iREM :: iST 7 0 :: iLD 6 0 :: iST 5 0 :: iLD 7 0 :: iST 6 0 :: GOTO 44 :: am_ju 146 55 := rfl
theorem ju_146_55 : am_ju 146 55 = iLD 1 1 :: IFC 1 59 :: iLD 4 0 :: GOTO 60 :: am_ju 146 59 := rfl
theorem ju_146_59 : am_ju 146 59 = iLD 3 1 :: am_ju 146 60 := rfl
theorem ju_146_60 : am_ju 146 60 = iLD 5 0 :: iDIV :: iRET :: [] := rfl
theorem ju_147_0 : am_ju 147 0 = iCONST 0 :: iST 1 1 :: am_ju 147 2 := rfl
theorem ju_147_2 : am_ju 147 2 = iLD 1 1 :: aLD 0 1 :: gR 9 0 12 216 :: gI 2 6 39 113 :: ICMP 3 18 :: aLD 0 1 :: gR 9 2 28 223 :: gR 3 2 114 172 :: iLD 1 1 :: iALD :: CALL 30 1 1 117 787 :: IFC 0 16 :: iCONST 1 :: zRET :: am_ju 147 16 := rfl
theorem ju_147_16 : am_ju 147 16 = IINC 1 1 :: GOTO 2 :: am_ju 147 18 := rfl
theorem ju_147_18 : am_ju 147 18 = iCONST 0 :: zRET :: [] := rfl
theorem ju_148_0 : am_ju 148 0 = iCONST 1 :: aLD 0 1 :: gR 9 0 12 216 :: gI 2 7 53 118 :: iSHL :: iCONST 1 :: iSUB :: aLD 0 1 :: CALL 103 1 2 96 792 :: iCONST (-1) :: iXOR :: iAND :: iRET :: [] := rfl
theorem ju_149_0 : am_ju 149 0 = aLD 0 1 :: gR 4 0 44 334 :: CALL 148 1 2 144 801 :: iST 1 1 :: aLD 0 1 :: iCONST 0 :: pI 4 5 28 340 :: iCONST 0 :: iST 2 1 :: am_ju 149 9 := rfl
theorem ju_149_9 : am_ju 149 9 = iLD 2 1 :: bPUSH 8 :: ICMP 3 34 :: aLD 0 1 :: gI 4 5 28 340 :: bPUSH 6 :: ICMP 3 34 :: iLD 1 1 :: iLD 2 1 :: CALL 29 2 1 147 802 :: IFC 0 32 :: aLD 0 1 :: gR 4 4 25 339 :: aLD 0 1 :: gI 4 5 28 340 :: iLD 2 1 :: iAST :: aLD 0 1 :: DUP :: gI 4 5 28 340 :: iCONST 1 :: iADD :: pI 4 5 28 340 :: am_ju 149 32 := rfl
theorem ju_149_32 : am_ju 149 32 = IINC 2 1 :: GOTO 9 :: am_ju 149 34 := rfl
theorem ju_149_34 : am_ju 149 34 = vRET :: [] := rfl
theorem ju_150_0 : am_ju 150 0 = aLD 0 1 :: gR 4 0 44 334 :: aLD 0 1 :: gR 4 1 12 335 :: iLD 1 1 :: iLD 2 1 :: CALL 42 4 2 48 748 :: aLD 0 1 :: gR 4 1 12 335 :: aLD 0 1 :: gR 4 0 44 334 :: gR 9 1 54 221 :: aLD 0 1 :: gR 4 0 44 334 :: gR 9 2 58 224 :: gI 3 4 62 177 :: iLD 3 1 :: CALL 134 4 2 67 749 :: iRET :: [] := rfl
theorem ju_151_0 : am_ju 151 0 = iCONST 0 :: iST 1 1 :: am_ju 151 2 := rfl
theorem ju_151_2 : am_ju 151 2 = iLD 1 1 :: iCONST 1 :: aLD 0 1 :: gI 4 5 28 340 :: iSHL :: ICMP 3 56 :: iCONST 0 :: iST 2 1 :: iCONST 0 :: iST 3 1 :: am_ju 151 12 := rfl
theorem ju_151_12 : am_ju 151 12 = iLD 3 1 :: aLD 0 1 :: gI 4 5 28 340 :: ICMP 3 31 :: iLD 1 1 :: iLD 3 1 :: CALL 29 2 1 147 802 :: IFC 0 29 :: iLD 2 1 :: iCONST 1 :: aLD 0 1 :: gR 4 4 25 339 :: iLD 3 1 :: iALD :: iSHL :: iOR :: iST 2 1 :: am_ju 151 29 := rfl
theorem ju_151_29 : am_ju 151 29 = IINC 3 1 :: GOTO 12 :: am_ju 151 31 := rfl
theorem ju_151_31 : am_ju 151 31 = iCONST 0 :: iST 3 1 :: am_ju 151 33 := rfl
theorem ju_151_33 : am_ju 151 33 = iLD 3 1 :: aLD 0 1 :: gR 4 0 44 334 :: gR 9 0 71 218 :: gI 2 6 75 115 :: ICMP 3 54 :: aLD 0 1 :: gR 4 6 32 341 :: iLD 3 1 :: bPUSH 64 :: iMUL :: iLD 1 1 :: iADD :: aLD 0 1 :: iLD 3 1 :: iLD 2 1 :: bPUSH 7 :: CALL 150 4 2 151 807 :: iAST :: IINC 3 1 :: GOTO 33 :: am_ju 151 54 := rfl
theorem ju_151_54 : am_ju 151 54 = IINC 1 1 :: GOTO 2 :: am_ju 151 56 := rfl
theorem ju_151_56 : am_ju 151 56 = vRET :: [] := rfl
theorem ju_152_0 : am_ju 152 0 = bPUSH 99 :: iST 1 1 :: iCONST 0 :: iST 2 1 :: am_ju 152 4 := rfl
theorem ju_152_4 : am_ju 152 4 = iLD 2 1 :: aLD 0 1 :: gR 4 0 44 334 :: gR 9 0 71 218 :: gI 2 6 75 115 :: ICMP 3 45 :: iCONST 0 :: iST 3 1 :: iCONST 0 :: iST 4 0 :: am_ju 152 14 := rfl
theorem ju_152_14 : am_ju 152 14 = iLD 4 0 :: aLD 0 1 :: gI 4 5 28 340 :: ICMP 3 32 :: aLD 0 1 :: gR 4 7 35 342 :: iLD 4 0 :: iALD :: iLD 2 1 :: ICMP 1 30 :: iLD 3 1 :: iCONST 1 :: iLD 4 0 :: iSHL :: iOR :: iST 3 1 :: am_ju 152 30 := rfl
theorem ju_152_30 : am_ju 152 30 = IINC 4 1 :: GOTO 14 :: am_ju 152 32 := rfl
theorem ju_152_32 : am_ju 152 32 = iLD 1 1 :: aLD 0 1 :: gR 4 6 32 341 :: iLD 2 1 :: bPUSH 64 :: iMUL :: iLD 3 1 :: iADD :: iALD :: MMIN 87 755 :: iST 1 1 :: IINC 2 1 :: GOTO 4 :: am_ju 152 45 := rfl
theorem ju_152_45 : am_ju 152 45 = iLD 1 1 :: iRET :: [] := rfl
theorem ju_153_0 : am_ju 153 0 = aLD 0 1 :: gI 4 5 28 340 :: iCONST 1 :: iSUB :: iST 2 1 :: am_ju 153 5 := rfl
theorem ju_153_5 : am_ju 153 5 = iLD 2 1 :: IFC 2 29 :: aLD 0 1 :: gR 4 7 35 342 :: iLD 2 1 :: DUP2 :: iALD :: iCONST 1 :: iADD :: iAST :: aLD 0 1 :: gR 4 7 35 342 :: iLD 2 1 :: iALD :: iLD 1 1 :: ICMP 3 22 :: vRET :: am_ju 153 22 := rfl
theorem ju_153_22 : am_ju 153 22 = aLD 0 1 :: gR 4 7 35 342 :: iLD 2 1 :: iCONST 0 :: iAST :: IINC 2 (-1) :: GOTO 5 :: am_ju 153 29 := rfl
theorem ju_153_29 : am_ju 153 29 = vRET :: [] := rfl
theorem ju_154_0 : am_ju 154 0 = aLD 0 1 :: CALL 149 1 2 122 797 :: aLD 0 1 :: CALL 151 1 2 125 803 :: aLD 0 1 :: gR 4 0 44 334 :: gR 9 0 71 218 :: gI 2 6 75 115 :: iST 1 1 :: iCONST 1 :: iST 2 1 :: iCONST 0 :: iST 3 1 :: am_ju 154 13 := rfl
theorem ju_154_13 : am_ju 154 13 = iLD 3 1 :: aLD 0 1 :: gI 4 5 28 340 :: ICMP 3 23 :: iLD 2 1 :: iLD 1 1 :: iMUL :: iST 2 1 :: IINC 3 1 :: GOTO 13 :: am_ju 154 23 := rfl
theorem ju_154_23 : am_ju 154 23 = aLD 0 1 :: gR 4 7 35 342 :: iCONST 0 :: CALL 79 2 0 128 811 :: aLD 0 1 :: iCONST (-1) :: pI 4 9 41 344 :: iCONST 0 :: iST 3 1 :: am_ju 154 32 := rfl
theorem ju_154_32 : am_ju 154 32 = iLD 3 1 :: iLD 2 1 :: ICMP 3 55 :: aLD 0 1 :: CALL 152 1 2 134 812 :: iST 4 0 :: iLD 4 0 :: aLD 0 1 :: gI 4 9 41 344 :: ICMP 5 50 :: aLD 0 1 :: iLD 4 0 :: pI 4 9 41 344 :: aLD 0 1 :: gR 4 8 38 343 :: aLD 0 1 :: gR 4 7 35 342 :: CALL 71 2 1 137 816 :: am_ju 154 50 := rfl
theorem ju_154_50 : am_ju 154 50 = aLD 0 1 :: iLD 1 1 :: CALL 153 2 2 141 817 :: IINC 3 1 :: GOTO 32 :: am_ju 154 55 := rfl
theorem ju_154_55 : am_ju 154 55 = vRET :: [] := rfl
theorem ju_155_0 : am_ju 155 0 = iCONST 0 :: iST 2 1 :: am_ju 155 2 := rfl
theorem ju_155_2 : am_ju 155 2 = iLD 2 1 :: aLD 0 1 :: gI 4 5 28 340 :: ICMP 3 19 :: aLD 0 1 :: gR 4 4 25 339 :: iLD 2 1 :: iALD :: iLD 1 1 :: ICMP 1 17 :: aLD 0 1 :: gR 4 8 38 343 :: iLD 2 1 :: iALD :: iRET :: am_ju 155 17 := rfl
theorem ju_155_17 : am_ju 155 17 = IINC 2 1 :: GOTO 2 :: am_ju 155 19 := rfl
theorem ju_155_19 : am_ju 155 19 = bPUSH (-4) :: iRET :: [] := rfl
theorem ju_156_0 : am_ju 156 0 = iLD 1 1 :: iCONST (-1) :: ICMP 0 11 :: aLD 0 1 :: gR 10 0 59 390 :: gR 9 0 82 217 :: iLD 1 1 :: CALL 27 2 2 100 464 :: IFC 1 11 :: iCONST (-1) :: iRET :: am_ju 156 11 := rfl
theorem ju_156_11 : am_ju 156 11 = aLD 0 1 :: gR 10 0 59 390 :: gR 9 0 82 217 :: gI 2 6 85 114 :: IFC 0 20 :: aLD 0 1 :: gR 10 0 59 390 :: CALL 147 1 2 251 783 :: IFC 0 22 :: am_ju 156 20 := rfl
theorem ju_156_20 : am_ju 156 20 = iCONST (-1) :: iRET :: am_ju 156 22 := rfl
theorem ju_156_22 : am_ju 156 22 = aLD 0 1 :: gR 10 0 59 390 :: CALL 148 1 2 255 788 :: CALL 55 1 0 211 657 :: bPUSH 6 :: ICMP 5 30 :: bPUSH (-3) :: iRET :: am_ju 156 30 := rfl
theorem ju_156_30 : am_ju 156 30 = aLD 0 1 :: gR 10 3 67 393 :: CALL 154 1 2 258 793 :: iLD 1 1 :: iCONST (-1) :: ICMP 1 41 :: aLD 0 1 :: gR 10 3 67 393 :: gI 4 9 261 345 :: CALL 136 1 0 245 756 :: GOTO 45 :: am_ju 156 41 := rfl
theorem ju_156_41 : am_ju 156 41 = aLD 0 1 :: gR 10 3 67 393 :: iLD 1 1 :: CALL 155 2 2 264 821 :: am_ju 156 45 := rfl
theorem ju_156_45 : am_ju 156 45 = iRET :: [] := rfl
theorem ju_157_0 : am_ju 157 0 = iCONST 0 :: iST 1 1 :: iCONST 0 :: iST 2 1 :: am_ju 157 4 := rfl
theorem ju_157_4 : am_ju 157 4 = iLD 2 1 :: bPUSH 8 :: ICMP 3 17 :: iLD 1 1 :: iLD 0 1 :: iLD 2 1 :: iSHR :: iCONST 1 :: iAND :: iADD :: iST 1 1 :: IINC 2 1 :: GOTO 4 :: am_ju 157 17 := rfl
theorem ju_157_17 : am_ju 157 17 = iLD 1 1 :: iRET :: [] := rfl
theorem ju_158_0 : am_ju 158 0 = iCONST 1 :: iST 3 1 :: iCONST 0 :: iST 4 0 :: am_ju 158 4 := rfl
theorem ju_158_4 : am_ju 158 4 = iLD 4 0 :: iLD 2 1 :: ICMP 3 13 :: iLD 3 1 :: iLD 1 1 :: iMUL :: iST 3 1 :: IINC 4 1 :: GOTO 4 :: am_ju 158 13 := rfl
theorem ju_158_13 : am_ju 158 13 = iLD 3 1 :: iRET :: [] := rfl
theorem ju_159_0 : am_ju 159 0 = aLD 0 1 :: gR 11 0 7 1018 :: aLD 0 1 :: gR 11 1 13 1019 :: CALL 90 2 0 137 1177 :: iLD 1 1 :: iST 3 1 :: aLD 0 1 :: gR 11 0 7 1018 :: iCONST 1 :: iALD :: iCONST 1 :: iSUB :: iST 4 0 :: am_ju 159 14 := rfl
theorem ju_159_14 : am_ju 159 14 = iLD 4 0 :: IFC 2 42 :: iLD 2 1 :: iLD 4 0 :: CALL 34 2 0 62 1112 :: IFC 0 40 :: aLD 0 1 :: gR 11 1 13 1019 :: iLD 4 0 :: CALL 25 1 0 59 1093 :: iCONST 5 :: iADD :: iLD 3 1 :: aLD 0 1 :: gR 11 0 7 1018 :: iCONST 0 :: iALD :: iREM :: iAST :: iLD 3 1 :: aLD 0 1 :: gR 11 0 7 1018 :: iCONST 0 :: iALD :: iDIV :: iST 3 1 :: am_ju 159 40 := rfl
theorem ju_159_40 : am_ju 159 40 = IINC 4 (-1) :: GOTO 14 :: am_ju 159 42 := rfl
theorem ju_159_42 : am_ju 159 42 = vRET :: [] := rfl
set_option maxRecDepth 100000 in
theorem ju_160_0 : am_ju 160 0 = aLD 0 1 :: gR 11 0 7 1018 :: iCONST 0 :: iALD :: IFC 1 7 :: iCONST 1 :: GOTO 8 :: am_ju 160 7 := rfl
set_option maxRecDepth 100000 in
theorem ju_160_7 : am_ju 160 7 = iCONST 0 :: am_ju 160 8 := rfl
set_option maxRecDepth 100000 in
theorem ju_160_8 : am_ju 160 8 = iST 2 1 :: iCONST 0 :: iST 3 1 :: am_ju 160 11 := rfl
set_option maxRecDepth 100000 in
theorem ju_160_11 : am_ju 160 11 = iLD 3 1 :: aLD 0 1 :: gR 11 0 7 1018 :: iCONST 0 :: iALD :: ICMP 3 29 :: iLD 2 1 :: IFC 1 23 :: aLD 0 1 :: iLD 3 1 :: CALL 35 2 2 73 1108 :: IFC 0 25 :: am_ju 160 23 := rfl
set_option maxRecDepth 100000 in
theorem ju_160_23 : am_ju 160 23 = iCONST 1 :: GOTO 26 :: am_ju 160 25 := rfl
set_option maxRecDepth 100000 in
theorem ju_160_25 : am_ju 160 25 = iCONST 0 :: am_ju 160 26 := rfl
set_option maxRecDepth 100000 in
theorem ju_160_26 : am_ju 160 26 = iST 2 1 :: IINC 3 1 :: GOTO 11 :: am_ju 160 29 := rfl
set_option maxRecDepth 100000 in
theorem ju_160_29 : am_ju 160 29 = iLD 2 1 :: IFC 1 38 :: iLD 1 1 :: iCONST (-1) :: ICMP 0 40 :: aLD 0 1 :: iLD 1 1 :: CALL 32 2 2 66 1100 :: IFC 1 40 :: am_ju 160 38 := rfl
set_option maxRecDepth 100000 in
theorem ju_160_38 : am_ju 160 38 = iCONST (-1) :: iRET :: am_ju 160 40 := rfl
set_option maxRecDepth 100000 in
theorem ju_160_40 : am_ju 160 40 = iCONST 0 :: iST 3 1 :: iCONST 0 :: iST 4 0 :: am_ju 160 44 := rfl
set_option maxRecDepth 100000 in
theorem ju_160_44 : am_ju 160 44 = iLD 4 0 :: aLD 0 1 :: gR 11 0 7 1018 :: iCONST 1 :: iALD :: ICMP 3 69 :: iLD 3 1 :: aLD 0 1 :: gR 11 0 7 1018 :: iLD 4 0 :: CALL 25 1 0 59 1093 :: iCONST 5 :: iADD :: iALD :: bPUSH 10 :: ICMP 3 64 :: iCONST 1 :: iLD 4 0 :: iSHL :: GOTO 65 :: am_ju 160 64 := rfl
set_option maxRecDepth 100000 in
theorem ju_160_64 : am_ju 160 64 = iCONST 0 :: am_ju 160 65 := rfl
set_option maxRecDepth 100000 in
theorem ju_160_65 : am_ju 160 65 = iOR :: iST 3 1 :: IINC 4 1 :: GOTO 44 :: am_ju 160 69 := rfl
set_option maxRecDepth 100000 in
theorem ju_160_69 : am_ju 160 69 = iLD 3 1 :: CALL 157 1 0 195 1291 :: bPUSH 6 :: ICMP 5 75 :: bPUSH (-3) :: iRET :: am_ju 160 75 := rfl
set_option maxRecDepth 100000 in
theorem ju_160_75 : am_ju 160 75 = iCONST 0 :: iST 4 0 :: iCONST (-1) :: iST 5 0 :: iCONST 0 :: iST 6 0 :: am_ju 160 81 := rfl
set_option maxRecDepth 100000 in
theorem ju_160_81 : am_ju 160 81 = iLD 6 0 :: aLD 0 1 :: aLD 0 1 :: gR 11 0 7 1018 :: iCONST 0 :: iALD :: iLD 3 1 :: CALL 157 1 0 195 1291 :: CALL 158 3 2 198 1294 :: ICMP 3 115 :: aLD 0 1 :: iLD 6 0 :: iLD 3 1 :: CALL 159 3 2 201 1298 :: aLD 0 1 :: bPUSH 7 :: CALL 138 2 2 186 1271 :: iST 7 0 :: iLD 7 0 :: iLD 5 0 :: ICMP 5 104 :: iLD 6 0 :: GOTO 105 :: am_ju 160 104 := rfl
set_option maxRecDepth 100000 in
theorem ju_160_104 : am_ju 160 104 = iLD 4 0 :: am_ju 160 105 := rfl
set_option maxRecDepth 100000 in
theorem ju_160_105 : am_ju 160 105 = iST 4 0 :: iLD 7 0 :: iLD 5 0 :: ICMP 5 111 :: iLD 7 0 :: GOTO 112 :: am_ju 160 111 := rfl
set_option maxRecDepth 100000 in
theorem ju_160_111 : am_ju 160 111 = iLD 5 0 :: am_ju 160 112 := rfl
set_option maxRecDepth 100000 in
theorem ju_160_112 : am_ju 160 112 = iST 5 0 :: IINC 6 1 :: GOTO 81 :: am_ju 160 115 := rfl
set_option maxRecDepth 100000 in
theorem ju_160_115 : am_ju 160 115 = iLD 1 1 :: iCONST (-1) :: ICMP 1 122 :: aLD 0 1 :: iLD 5 0 :: CALL 139 2 2 189 1275 :: iRET :: am_ju 160 122 := rfl
set_option maxRecDepth 100000 in
theorem ju_160_122 : am_ju 160 122 = aLD 0 1 :: iLD 4 0 :: iLD 3 1 :: CALL 159 3 2 201 1298 :: iLD 3 1 :: iLD 1 1 :: CALL 34 2 0 62 1112 :: IFC 0 138 :: aLD 0 1 :: gR 11 1 13 1019 :: iLD 1 1 :: CALL 25 1 0 59 1093 :: iCONST 5 :: iADD :: iALD :: GOTO 139 :: am_ju 160 138 := rfl
set_option maxRecDepth 100000 in
theorem ju_160_138 : am_ju 160 138 = bPUSH (-4) :: am_ju 160 139 := rfl
set_option maxRecDepth 100000 in
theorem ju_160_139 : am_ju 160 139 = iRET :: [] := rfl
theorem ju_161_0 : am_ju 161 0 = bPUSH (-4) :: iST 1 1 :: aLD 0 1 :: bPUSH 7 :: bPUSH (-4) :: CALL 135 3 2 93 833 :: iST 2 1 :: iCONST 0 :: iST 3 1 :: am_ju 161 9 := rfl
theorem ju_161_9 : am_ju 161 9 = iLD 3 1 :: aLD 0 1 :: gR 4 0 44 334 :: gR 9 0 71 218 :: gI 2 6 75 115 :: ICMP 3 37 :: aLD 0 1 :: gR 4 0 44 334 :: gR 9 0 71 218 :: gR 2 0 95 94 :: iLD 3 1 :: iALD :: IFC 0 23 :: GOTO 35 :: am_ju 161 23 := rfl
theorem ju_161_23 : am_ju 161 23 = aLD 0 1 :: bPUSH 7 :: iLD 3 1 :: CALL 135 3 2 93 833 :: iST 4 0 :: iLD 4 0 :: iLD 2 1 :: ICMP 5 35 :: iLD 4 0 :: iST 2 1 :: iLD 3 1 :: iST 1 1 :: am_ju 161 35 := rfl
theorem ju_161_35 : am_ju 161 35 = IINC 3 1 :: GOTO 9 :: am_ju 161 37 := rfl
theorem ju_161_37 : am_ju 161 37 = iLD 1 1 :: iRET :: [] := rfl
theorem ju_162_0 : am_ju 162 0 = aLD 0 1 :: gR 10 3 67 393 :: CALL 161 1 2 267 829 :: iRET :: [] := rfl
theorem ju_163_0 : am_ju 163 0 = aLD 0 1 :: gR 11 0 7 1018 :: aLD 0 1 :: gR 11 1 13 1019 :: CALL 90 2 0 137 1177 :: aLD 0 1 :: bPUSH 7 :: CALL 138 2 2 186 1271 :: iST 1 1 :: bPUSH (-4) :: iST 2 1 :: iCONST 0 :: iST 3 1 :: am_ju 163 13 := rfl
theorem ju_163_13 : am_ju 163 13 = iLD 3 1 :: aLD 0 1 :: gR 11 0 7 1018 :: iCONST 0 :: iALD :: ICMP 3 60 :: aLD 0 1 :: gR 11 0 7 1018 :: iLD 3 1 :: CALL 18 1 0 51 1086 :: iCONST 0 :: iADD :: iALD :: IFC 1 58 :: aLD 0 1 :: gR 11 0 7 1018 :: aLD 0 1 :: gR 11 1 13 1019 :: CALL 90 2 0 137 1177 :: aLD 0 1 :: gR 11 1 13 1019 :: iLD 3 1 :: CALL 18 1 0 51 1086 :: iCONST 0 :: iADD :: iCONST 1 :: iAST :: aLD 0 1 :: bPUSH 7 :: CALL 138 2 2 186 1271 :: iST 4 0 :: iLD 4 0 :: iLD 1 1 :: ICMP 5 49 :: iLD 3 1 :: GOTO 50 :: am_ju 163 49 := rfl
theorem ju_163_49 : am_ju 163 49 = iLD 2 1 :: am_ju 163 50 := rfl
theorem ju_163_50 : am_ju 163 50 = iST 2 1 :: iLD 4 0 :: iLD 1 1 :: ICMP 5 56 :: iLD 4 0 :: GOTO 57 :: am_ju 163 56 := rfl
theorem ju_163_56 : am_ju 163 56 = iLD 1 1 :: am_ju 163 57 := rfl
theorem ju_163_57 : am_ju 163 57 = iST 1 1 :: am_ju 163 58 := rfl
theorem ju_163_58 : am_ju 163 58 = IINC 3 1 :: GOTO 13 :: am_ju 163 60 := rfl
theorem ju_163_60 : am_ju 163 60 = iLD 2 1 :: iRET :: [] := rfl
theorem ju_164_0 : am_ju 164 0 = aLD 0 1 :: gR 4 0 44 334 :: gR 9 0 71 218 :: gR 2 4 161 108 :: iLD 1 1 :: CALL 40 2 1 164 850 :: aLD 0 1 :: gR 4 0 44 334 :: gR 9 0 71 218 :: gR 2 4 161 108 :: iLD 2 1 :: CALL 40 2 1 164 850 :: iSUB :: iST 3 1 :: iLD 3 1 :: IFC 0 22 :: iLD 3 1 :: IFC 3 20 :: iCONST 1 :: GOTO 21 :: am_ju 164 20 := rfl
theorem ju_164_20 : am_ju 164 20 = iCONST 0 :: am_ju 164 21 := rfl
theorem ju_164_21 : am_ju 164 21 = zRET :: am_ju 164 22 := rfl
theorem ju_164_22 : am_ju 164 22 = iLD 1 1 :: CALL 55 1 0 168 851 :: iLD 2 1 :: CALL 55 1 0 168 851 :: iSUB :: iST 4 0 :: iLD 4 0 :: IFC 0 36 :: iLD 4 0 :: IFC 3 34 :: iCONST 1 :: GOTO 42 :: am_ju 164 34 := rfl
theorem ju_164_34 : am_ju 164 34 = iCONST 0 :: GOTO 42 :: am_ju 164 36 := rfl
theorem ju_164_36 : am_ju 164 36 = iLD 1 1 :: iLD 2 1 :: ICMP 3 41 :: iCONST 1 :: GOTO 42 :: am_ju 164 41 := rfl
theorem ju_164_41 : am_ju 164 41 = iCONST 0 :: am_ju 164 42 := rfl
theorem ju_164_42 : am_ju 164 42 = zRET :: [] := rfl
theorem ju_165_0 : am_ju 165 0 = aLD 0 1 :: gR 4 0 44 334 :: iLD 1 1 :: CALL 39 2 2 80 747 :: iST 2 1 :: iLD 2 1 :: iST 3 1 :: iCONST 0 :: iST 4 0 :: am_ju 165 9 := rfl
theorem ju_165_9 : am_ju 165 9 = iLD 4 0 :: sPUSH 256 :: ICMP 3 39 :: iLD 4 0 :: iLD 2 1 :: iCONST (-1) :: iXOR :: iAND :: IFC 1 37 :: aLD 0 1 :: iLD 4 0 :: iLD 3 1 :: CALL 164 3 2 158 846 :: IFC 1 24 :: GOTO 37 :: am_ju 165 24 := rfl
theorem ju_165_24 : am_ju 165 24 = aLD 0 1 :: iLD 1 1 :: iLD 2 1 :: iLD 4 0 :: iCONST (-1) :: iXOR :: iAND :: bPUSH 7 :: CALL 150 4 2 151 807 :: bPUSH 99 :: ICMP 1 37 :: iLD 4 0 :: iST 3 1 :: am_ju 165 37 := rfl
theorem ju_165_37 : am_ju 165 37 = IINC 4 1 :: GOTO 9 :: am_ju 165 39 := rfl
theorem ju_165_39 : am_ju 165 39 = iLD 3 1 :: iRET :: [] := rfl
theorem ju_166_0 : am_ju 166 0 = iCONST 0 :: iST 1 1 :: iCONST 0 :: iST 2 1 :: am_ju 166 4 := rfl
theorem ju_166_4 : am_ju 166 4 = iLD 2 1 :: aLD 0 1 :: gR 4 0 44 334 :: gR 9 0 71 218 :: gI 2 6 75 115 :: ICMP 3 18 :: iLD 1 1 :: aLD 0 1 :: iLD 2 1 :: CALL 165 2 2 155 842 :: iOR :: iST 1 1 :: IINC 2 1 :: GOTO 4 :: am_ju 166 18 := rfl
theorem ju_166_18 : am_ju 166 18 = iLD 1 1 :: iRET :: [] := rfl
theorem ju_167_0 : am_ju 167 0 = iLD 1 1 :: iCONST 2 :: CALL 12 2 0 78 428 :: IFC 1 6 :: iCONST (-1) :: iRET :: am_ju 167 6 := rfl
theorem ju_167_6 : am_ju 167 6 = aLD 0 1 :: gR 10 3 67 393 :: CALL 166 1 2 270 838 :: iST 2 1 :: iLD 1 1 :: IFC 1 14 :: iLD 2 1 :: GOTO 20 :: am_ju 167 14 := rfl
theorem ju_167_14 : am_ju 167 14 = aLD 0 1 :: gR 10 0 59 390 :: gR 9 0 82 217 :: gR 2 4 164 107 :: iLD 2 1 :: CALL 40 2 0 273 852 :: am_ju 167 20 := rfl
theorem ju_167_20 : am_ju 167 20 = iRET :: [] := rfl
theorem ju_168_0 : am_ju 168 0 = iCONST 0 :: iST 2 1 :: iCONST 0 :: iST 3 1 :: am_ju 168 4 := rfl
theorem ju_168_4 : am_ju 168 4 = iLD 3 1 :: aLD 0 1 :: gR 11 0 7 1018 :: iCONST 1 :: iALD :: ICMP 3 28 :: iLD 2 1 :: iLD 1 1 :: iLD 3 1 :: CALL 34 2 0 62 1112 :: IFC 0 23 :: aLD 0 1 :: gR 11 0 7 1018 :: iLD 3 1 :: CALL 25 1 0 59 1093 :: iCONST 3 :: iADD :: iALD :: GOTO 24 :: am_ju 168 23 := rfl
theorem ju_168_23 : am_ju 168 23 = iCONST 0 :: am_ju 168 24 := rfl
theorem ju_168_24 : am_ju 168 24 = iADD :: iST 2 1 :: IINC 3 1 :: GOTO 4 :: am_ju 168 28 := rfl
theorem ju_168_28 : am_ju 168 28 = iLD 2 1 :: iRET :: [] := rfl
theorem ju_169_0 : am_ju 169 0 = aLD 0 1 :: gR 11 0 7 1018 :: aLD 0 1 :: gR 11 1 13 1019 :: CALL 90 2 0 137 1177 :: iCONST 0 :: iST 2 1 :: am_ju 169 7 := rfl
theorem ju_169_7 : am_ju 169 7 = iLD 2 1 :: aLD 0 1 :: gR 11 0 7 1018 :: iCONST 1 :: iALD :: ICMP 3 35 :: aLD 0 1 :: gR 11 1 13 1019 :: iLD 2 1 :: CALL 25 1 0 59 1093 :: iCONST 5 :: iADD :: iLD 1 1 :: iLD 2 1 :: CALL 34 2 0 62 1112 :: IFC 0 25 :: iCONST 3 :: GOTO 32 :: am_ju 169 25 := rfl
theorem ju_169_25 : am_ju 169 25 = aLD 0 1 :: gR 11 1 13 1019 :: iLD 2 1 :: CALL 25 1 0 59 1093 :: iCONST 5 :: iADD :: iALD :: am_ju 169 32 := rfl
theorem ju_169_32 : am_ju 169 32 = iAST :: IINC 2 1 :: GOTO 7 :: am_ju 169 35 := rfl
theorem ju_169_35 : am_ju 169 35 = aLD 0 1 :: bPUSH 7 :: CALL 138 2 2 186 1271 :: aLD 0 1 :: gR 11 0 7 1018 :: iCONST 2 :: iALD :: ICMP 1 45 :: iCONST 1 :: GOTO 46 :: am_ju 169 45 := rfl
theorem ju_169_45 : am_ju 169 45 = iCONST 0 :: am_ju 169 46 := rfl
theorem ju_169_46 : am_ju 169 46 = zRET :: [] := rfl
theorem ju_170_0 : am_ju 170 0 = iLD 1 1 :: iCONST 0 :: iCONST 1 :: CALL 17 3 0 47 1080 :: IFC 1 7 :: iCONST (-1) :: iRET :: am_ju 170 7 := rfl
theorem ju_170_7 : am_ju 170 7 = iCONST 0 :: iST 2 1 :: iCONST 0 :: iST 3 1 :: am_ju 170 11 := rfl
theorem ju_170_11 : am_ju 170 11 = iLD 3 1 :: aLD 0 1 :: gR 11 0 7 1018 :: iCONST 0 :: iALD :: ICMP 3 26 :: iLD 2 1 :: aLD 0 1 :: gR 11 0 7 1018 :: iLD 3 1 :: CALL 45 2 0 76 1123 :: iOR :: iST 2 1 :: IINC 3 1 :: GOTO 11 :: am_ju 170 26 := rfl
theorem ju_170_26 : am_ju 170 26 = iLD 2 1 :: iST 3 1 :: iCONST 0 :: iST 4 0 :: am_ju 170 30 := rfl
theorem ju_170_30 : am_ju 170 30 = iLD 4 0 :: iLD 2 1 :: ICMP 4 82 :: aLD 0 1 :: iLD 3 1 :: CALL 168 2 2 205 1310 :: aLD 0 1 :: iLD 4 0 :: CALL 168 2 2 205 1310 :: iSUB :: iST 5 0 :: iLD 5 0 :: IFC 4 60 :: iLD 5 0 :: IFC 1 50 :: iLD 4 0 :: CALL 157 1 0 195 1291 :: iLD 3 1 :: CALL 157 1 0 195 1291 :: ICMP 2 60 :: am_ju 170 50 := rfl
theorem ju_170_50 : am_ju 170 50 = iLD 5 0 :: IFC 1 62 :: iLD 4 0 :: CALL 157 1 0 195 1291 :: iLD 3 1 :: CALL 157 1 0 195 1291 :: ICMP 1 62 :: iLD 4 0 :: iLD 3 1 :: ICMP 3 62 :: am_ju 170 60 := rfl
theorem ju_170_60 : am_ju 170 60 = iCONST 1 :: GOTO 63 :: am_ju 170 62 := rfl
theorem ju_170_62 : am_ju 170 62 = iCONST 0 :: am_ju 170 63 := rfl
theorem ju_170_63 : am_ju 170 63 = iST 6 0 :: iLD 4 0 :: iLD 2 1 :: iCONST (-1) :: iXOR :: iAND :: IFC 1 78 :: iLD 6 0 :: IFC 0 78 :: aLD 0 1 :: iLD 4 0 :: CALL 169 2 2 208 1314 :: IFC 0 78 :: iLD 4 0 :: GOTO 79 :: am_ju 170 78 := rfl
theorem ju_170_78 : am_ju 170 78 = iLD 3 1 :: am_ju 170 79 := rfl
theorem ju_170_79 : am_ju 170 79 = iST 3 1 :: IINC 4 1 :: GOTO 30 :: am_ju 170 82 := rfl
theorem ju_170_82 : am_ju 170 82 = iLD 1 1 :: IFC 1 86 :: iLD 3 1 :: GOTO 89 :: am_ju 170 86 := rfl
theorem ju_170_86 : am_ju 170 86 = aLD 0 1 :: iLD 3 1 :: CALL 168 2 2 205 1310 :: am_ju 170 89 := rfl
theorem ju_170_89 : am_ju 170 89 = iRET :: [] := rfl
theorem ju_171_0 : am_ju 171 0 = aLD 0 1 :: gR 9 0 12 216 :: iLD 1 1 :: CALL 27 2 2 100 861 :: IFC 0 21 :: aLD 0 1 :: gR 9 0 12 216 :: gR 2 5 104 111 :: iLD 1 1 :: iALD :: iCONST 1 :: ICMP 1 21 :: aLD 0 1 :: gR 9 2 28 223 :: gR 3 3 74 174 :: iLD 1 1 :: iALD :: bPUSH 10 :: ICMP 2 21 :: iCONST 1 :: GOTO 22 :: am_ju 171 21 := rfl
theorem ju_171_21 : am_ju 171 21 = iCONST 0 :: am_ju 171 22 := rfl
theorem ju_171_22 : am_ju 171 22 = zRET :: [] := rfl
theorem ju_172_0 : am_ju 172 0 = aLD 0 1 :: iLD 1 1 :: CALL 100 2 2 19 662 :: iST 2 1 :: iLD 2 1 :: iCONST 1 :: ICMP 0 12 :: iLD 2 1 :: iCONST 2 :: ICMP 0 12 :: iCONST 0 :: iRET :: am_ju 172 12 := rfl
theorem ju_172_12 : am_ju 172 12 = iLD 2 1 :: iCONST 1 :: ICMP 1 17 :: iCONST (-1) :: GOTO 18 :: am_ju 172 17 := rfl
theorem ju_172_17 : am_ju 172 17 = iCONST 1 :: am_ju 172 18 := rfl
theorem ju_172_18 : am_ju 172 18 = iST 3 1 :: iCONST 0 :: iST 4 0 :: am_ju 172 21 := rfl
theorem ju_172_21 : am_ju 172 21 = iLD 4 0 :: bPUSH 20 :: ICMP 3 37 :: aLD 0 1 :: iLD 1 1 :: iLD 3 1 :: iLD 4 0 :: iCONST 1 :: iADD :: iMUL :: iADD :: CALL 100 2 2 19 662 :: iLD 2 1 :: ICMP 1 37 :: IINC 4 1 :: GOTO 21 :: am_ju 172 37 := rfl
theorem ju_172_37 : am_ju 172 37 = iLD 4 0 :: iRET :: [] := rfl
theorem ju_173_0 : am_ju 173 0 = aLD 0 1 :: iLD 1 1 :: CALL 171 2 2 107 866 :: IFC 0 15 :: aLD 0 1 :: gR 9 1 21 220 :: aLD 0 1 :: gR 9 2 28 223 :: gR 3 3 74 174 :: iLD 1 1 :: iALD :: bPUSH 10 :: iSUB :: CALL 172 2 2 110 867 :: GOTO 16 :: am_ju 173 15 := rfl
theorem ju_173_15 : am_ju 173 15 = iCONST 0 :: am_ju 173 16 := rfl
theorem ju_173_16 : am_ju 173 16 = iRET :: [] := rfl
theorem ju_174_0 : am_ju 174 0 = aLD 0 1 :: gR 10 0 59 390 :: gR 9 0 82 217 :: iLD 1 1 :: CALL 27 2 2 100 464 :: IFC 1 8 :: iCONST (-1) :: iRET :: am_ju 174 8 := rfl
theorem ju_174_8 : am_ju 174 8 = aLD 0 1 :: gR 10 0 59 390 :: iLD 1 1 :: CALL 171 2 2 277 857 :: IFC 1 15 :: bPUSH (-2) :: iRET :: am_ju 174 15 := rfl
theorem ju_174_15 : am_ju 174 15 = aLD 0 1 :: gR 10 0 59 390 :: iLD 1 1 :: CALL 173 2 2 280 862 :: iRET :: [] := rfl
theorem ju_175_0 : am_ju 175 0 = aLD 0 1 :: gR 11 0 7 1018 :: iLD 1 1 :: CALL 25 1 0 59 1093 :: iCONST 4 :: iADD :: iALD :: iCONST 1 :: ICMP 1 20 :: aLD 0 1 :: gR 11 0 7 1018 :: iLD 1 1 :: CALL 25 1 0 59 1093 :: iCONST 5 :: iADD :: iALD :: bPUSH 10 :: ICMP 2 20 :: iCONST 1 :: GOTO 21 :: am_ju 175 20 := rfl
theorem ju_175_20 : am_ju 175 20 = iCONST 0 :: am_ju 175 21 := rfl
theorem ju_175_21 : am_ju 175 21 = zRET :: [] := rfl
theorem ju_176_0 : am_ju 176 0 = aLD 0 1 :: gR 11 0 7 1018 :: iLD 1 1 :: CALL 25 1 0 59 1093 :: iCONST 5 :: iADD :: iALD :: bPUSH 10 :: iSUB :: iST 2 1 :: iLD 2 1 :: iCONST 0 :: aLD 0 1 :: gR 11 0 7 1018 :: iCONST 2 :: iALD :: iCONST 1 :: iSUB :: CALL 17 3 0 47 1080 :: IFC 0 27 :: aLD 0 1 :: gR 11 0 7 1018 :: bPUSH 66 :: iLD 2 1 :: iADD :: iALD :: GOTO 28 :: am_ju 176 27 := rfl
theorem ju_176_27 : am_ju 176 27 = iCONST 0 :: am_ju 176 28 := rfl
theorem ju_176_28 : am_ju 176 28 = iST 3 1 :: iLD 3 1 :: iCONST 1 :: ICMP 1 34 :: iCONST (-1) :: GOTO 40 :: am_ju 176 34 := rfl
theorem ju_176_34 : am_ju 176 34 = iLD 3 1 :: iCONST 2 :: ICMP 1 39 :: iCONST 1 :: GOTO 40 :: am_ju 176 39 := rfl
theorem ju_176_39 : am_ju 176 39 = iCONST 0 :: am_ju 176 40 := rfl
theorem ju_176_40 : am_ju 176 40 = iST 4 0 :: iCONST 0 :: iST 5 0 :: am_ju 176 43 := rfl
theorem ju_176_43 : am_ju 176 43 = iLD 4 0 :: IFC 0 73 :: iLD 2 1 :: iLD 4 0 :: iADD :: iCONST 0 :: aLD 0 1 :: gR 11 0 7 1018 :: iCONST 2 :: iALD :: iCONST 1 :: iSUB :: CALL 17 3 0 47 1080 :: IFC 0 73 :: aLD 0 1 :: gR 11 0 7 1018 :: bPUSH 66 :: iLD 2 1 :: iADD :: iLD 4 0 :: iADD :: iALD :: iLD 3 1 :: ICMP 1 73 :: iLD 2 1 :: iLD 4 0 :: iADD :: iST 2 1 :: IINC 5 1 :: GOTO 43 :: am_ju 176 73 := rfl
theorem ju_176_73 : am_ju 176 73 = iLD 5 0 :: iRET :: [] := rfl
theorem ju_177_0 : am_ju 177 0 = aLD 0 1 :: iLD 1 1 :: CALL 32 2 2 66 1100 :: IFC 1 6 :: iCONST (-1) :: iRET :: am_ju 177 6 := rfl
theorem ju_177_6 : am_ju 177 6 = aLD 0 1 :: iLD 1 1 :: CALL 175 2 2 211 1322 :: IFC 0 14 :: aLD 0 1 :: iLD 1 1 :: CALL 176 2 2 214 1326 :: GOTO 15 :: am_ju 177 14 := rfl
theorem ju_177_14 : am_ju 177 14 = bPUSH (-2) :: am_ju 177 15 := rfl
theorem ju_177_15 : am_ju 177 15 = iRET :: [] := rfl
theorem ju_178_0 : am_ju 178 0 = iCONST 0 :: iST 1 1 :: iCONST 0 :: iST 2 1 :: am_ju 178 4 := rfl
theorem ju_178_4 : am_ju 178 4 = iLD 2 1 :: aLD 0 1 :: gR 9 0 12 216 :: gI 2 7 53 118 :: ICMP 3 21 :: aLD 0 1 :: iLD 2 1 :: CALL 171 2 2 107 866 :: IFC 0 19 :: iLD 1 1 :: iCONST 1 :: iLD 2 1 :: iSHL :: iOR :: iST 1 1 :: am_ju 178 19 := rfl
theorem ju_178_19 : am_ju 178 19 = IINC 2 1 :: GOTO 4 :: am_ju 178 21 := rfl
theorem ju_178_21 : am_ju 178 21 = iLD 1 1 :: iRET :: [] := rfl
theorem ju_179_0 : am_ju 179 0 = aLD 0 1 :: gR 1 0 25 373 :: CALL 178 1 2 45 887 :: iST 1 1 :: aLD 0 1 :: iCONST 0 :: pI 1 3 18 376 :: iCONST 0 :: iST 2 1 :: am_ju 179 9 := rfl
theorem ju_179_9 : am_ju 179 9 = iLD 2 1 :: bPUSH 8 :: ICMP 3 43 :: aLD 0 1 :: gI 1 3 18 376 :: bPUSH 6 :: ICMP 3 43 :: iLD 1 1 :: iLD 2 1 :: CALL 29 2 1 32 888 :: IFC 0 41 :: aLD 0 1 :: gR 1 1 9 374 :: aLD 0 1 :: gI 1 3 18 376 :: iLD 2 1 :: iAST :: aLD 0 1 :: gR 1 2 15 375 :: aLD 0 1 :: gI 1 3 18 376 :: aLD 0 1 :: gR 1 0 25 373 :: iLD 2 1 :: CALL 173 2 2 51 889 :: iAST :: aLD 0 1 :: DUP :: gI 1 3 18 376 :: iCONST 1 :: iADD :: pI 1 3 18 376 :: am_ju 179 41 := rfl
theorem ju_179_41 : am_ju 179 41 = IINC 2 1 :: GOTO 9 :: am_ju 179 43 := rfl
theorem ju_179_43 : am_ju 179 43 = vRET :: [] := rfl
theorem ju_180_0 : am_ju 180 0 = aLD 0 1 :: gR 1 2 15 375 :: iLD 2 1 :: iALD :: IFC 1 7 :: iCONST 1 :: zRET :: am_ju 180 7 := rfl
theorem ju_180_7 : am_ju 180 7 = iCONST 0 :: iST 3 1 :: iCONST 0 :: iST 4 0 :: am_ju 180 11 := rfl
theorem ju_180_11 : am_ju 180 11 = iLD 4 0 :: aLD 0 1 :: gI 1 3 18 376 :: ICMP 3 35 :: iLD 4 0 :: iLD 2 1 :: ICMP 0 22 :: iLD 1 1 :: iLD 4 0 :: CALL 29 2 1 32 888 :: IFC 0 33 :: am_ju 180 22 := rfl
theorem ju_180_22 : am_ju 180 22 = iLD 3 1 :: iCONST 2 :: aLD 0 1 :: gR 1 2 15 375 :: iLD 4 0 :: iALD :: iMUL :: iCONST 1 :: iADD :: iADD :: iST 3 1 :: am_ju 180 33 := rfl
theorem ju_180_33 : am_ju 180 33 = IINC 4 1 :: GOTO 11 :: am_ju 180 35 := rfl
theorem ju_180_35 : am_ju 180 35 = iLD 3 1 :: iCONST 3 :: aLD 0 1 :: gR 1 2 15 375 :: iLD 2 1 :: iALD :: iMUL :: iCONST 2 :: iADD :: ICMP 4 47 :: iCONST 1 :: GOTO 48 :: am_ju 180 47 := rfl
theorem ju_180_47 : am_ju 180 47 = iCONST 0 :: am_ju 180 48 := rfl
theorem ju_180_48 : am_ju 180 48 = zRET :: [] := rfl
theorem ju_181_0 : am_ju 181 0 = aLD 0 1 :: gR 1 4 22 377 :: iLD 1 1 :: iCONST 1 :: iLD 2 1 :: iSHL :: iOR :: iALD :: iST 3 1 :: aLD 0 1 :: iLD 1 1 :: iLD 2 1 :: CALL 180 3 2 55 894 :: IFC 0 26 :: iLD 3 1 :: aLD 0 1 :: gR 1 0 25 373 :: gR 9 0 58 219 :: gR 2 4 62 106 :: aLD 0 1 :: gR 1 1 9 374 :: iLD 2 1 :: iALD :: iALD :: iADD :: GOTO 27 :: am_ju 181 26 := rfl
theorem ju_181_26 : am_ju 181 26 = iLD 3 1 :: am_ju 181 27 := rfl
theorem ju_181_27 : am_ju 181 27 = iRET :: [] := rfl
theorem ju_182_0 : am_ju 182 0 = aLD 0 1 :: CALL 179 1 2 29 883 :: iCONST 1 :: aLD 0 1 :: gI 1 3 18 376 :: iSHL :: iCONST 1 :: iSUB :: iST 1 1 :: aLD 0 1 :: gR 1 4 22 377 :: iLD 1 1 :: iCONST 0 :: iAST :: iLD 1 1 :: iCONST 1 :: iSUB :: iST 2 1 :: am_ju 182 18 := rfl
theorem ju_182_18 : am_ju 182 18 = iLD 2 1 :: IFC 2 48 :: iCONST 0 :: iST 3 1 :: iCONST 0 :: iST 4 0 :: am_ju 182 24 := rfl
theorem ju_182_24 : am_ju 182 24 = iLD 4 0 :: aLD 0 1 :: gI 1 3 18 376 :: ICMP 3 41 :: iLD 2 1 :: iLD 4 0 :: CALL 29 2 1 32 888 :: IFC 1 39 :: iLD 3 1 :: aLD 0 1 :: iLD 2 1 :: iLD 4 0 :: CALL 181 3 2 36 890 :: MMAX 40 898 :: iST 3 1 :: am_ju 182 39 := rfl
theorem ju_182_39 : am_ju 182 39 = IINC 4 1 :: GOTO 24 :: am_ju 182 41 := rfl
theorem ju_182_41 : am_ju 182 41 = aLD 0 1 :: gR 1 4 22 377 :: iLD 2 1 :: iLD 3 1 :: iAST :: IINC 2 (-1) :: GOTO 18 :: am_ju 182 48 := rfl
theorem ju_182_48 : am_ju 182 48 = vRET :: [] := rfl
theorem ju_183_0 : am_ju 183 0 = iCONST 0 :: iST 2 1 :: am_ju 183 2 := rfl
theorem ju_183_2 : am_ju 183 2 = iLD 2 1 :: aLD 0 1 :: gI 1 3 18 376 :: ICMP 3 23 :: iLD 1 1 :: iLD 2 1 :: CALL 29 2 1 32 888 :: IFC 1 21 :: aLD 0 1 :: iLD 1 1 :: iLD 2 1 :: CALL 181 3 2 36 890 :: aLD 0 1 :: gR 1 4 22 377 :: iLD 1 1 :: iALD :: ICMP 1 21 :: iLD 2 1 :: iRET :: am_ju 183 21 := rfl
theorem ju_183_21 : am_ju 183 21 = IINC 2 1 :: GOTO 2 :: am_ju 183 23 := rfl
theorem ju_183_23 : am_ju 183 23 = iCONST 0 :: iRET :: [] := rfl
theorem ju_184_0 : am_ju 184 0 = iLD 1 1 :: IFC 2 6 :: iLD 1 1 :: aLD 0 1 :: gI 1 3 18 376 :: ICMP 2 8 :: am_ju 184 6 := rfl
theorem ju_184_6 : am_ju 184 6 = bPUSH (-4) :: iRET :: am_ju 184 8 := rfl
theorem ju_184_8 : am_ju 184 8 = iCONST 0 :: iST 2 1 :: iCONST 0 :: iST 3 1 :: am_ju 184 12 := rfl
theorem ju_184_12 : am_ju 184 12 = iLD 3 1 :: iLD 1 1 :: ICMP 3 25 :: iLD 2 1 :: iCONST 1 :: aLD 0 1 :: iLD 2 1 :: CALL 183 2 2 67 903 :: iSHL :: iOR :: iST 2 1 :: IINC 3 1 :: GOTO 12 :: am_ju 184 25 := rfl
theorem ju_184_25 : am_ju 184 25 = aLD 0 1 :: gR 1 1 9 374 :: aLD 0 1 :: iLD 2 1 :: CALL 183 2 2 67 903 :: iALD :: iRET :: [] := rfl
theorem ju_185_0 : am_ju 185 0 = iLD 1 1 :: iCONST (-1) :: ICMP 2 6 :: iLD 1 1 :: bPUSH 8 :: ICMP 2 8 :: am_ju 185 6 := rfl
theorem ju_185_6 : am_ju 185 6 = iCONST (-1) :: iRET :: am_ju 185 8 := rfl
theorem ju_185_8 : am_ju 185 8 = aLD 0 1 :: gR 10 0 59 390 :: CALL 178 1 2 283 875 :: CALL 55 1 0 211 657 :: bPUSH 6 :: ICMP 5 16 :: bPUSH (-3) :: iRET :: am_ju 185 16 := rfl
theorem ju_185_16 : am_ju 185 16 = aLD 0 1 :: gR 10 4 74 394 :: CALL 182 1 2 286 879 :: iLD 1 1 :: iCONST (-1) :: ICMP 1 28 :: aLD 0 1 :: gR 10 4 74 394 :: gR 1 4 289 378 :: iCONST 0 :: iALD :: GOTO 32 :: am_ju 185 28 := rfl
theorem ju_185_28 : am_ju 185 28 = aLD 0 1 :: gR 10 4 74 394 :: iLD 1 1 :: CALL 184 2 2 292 899 :: am_ju 185 32 := rfl
theorem ju_185_32 : am_ju 185 32 = iRET :: [] := rfl
theorem ju_186_0 : am_ju 186 0 = iLD 1 1 :: iST 3 1 :: iCONST 0 :: iST 4 0 :: iLD 2 1 :: iCONST 1 :: iSUB :: iST 5 0 :: am_ju 186 8 := rfl
theorem ju_186_8 : am_ju 186 8 = iLD 5 0 :: IFC 2 32 :: aLD 0 1 :: gR 11 17 41 1035 :: iLD 5 0 :: iLD 3 1 :: iLD 2 1 :: iREM :: iAST :: iLD 4 0 :: iCONST 1 :: aLD 0 1 :: gR 11 17 41 1035 :: iLD 5 0 :: iALD :: iSHL :: iOR :: iST 4 0 :: iLD 3 1 :: iLD 2 1 :: iDIV :: iST 3 1 :: IINC 5 (-1) :: GOTO 8 :: am_ju 186 32 := rfl
theorem ju_186_32 : am_ju 186 32 = iLD 4 0 :: CALL 157 1 0 195 1291 :: iLD 2 1 :: ICMP 1 38 :: iCONST 1 :: GOTO 39 :: am_ju 186 38 := rfl
theorem ju_186_38 : am_ju 186 38 = iCONST 0 :: am_ju 186 39 := rfl
theorem ju_186_39 : am_ju 186 39 = zRET :: [] := rfl
theorem ju_187_0 : am_ju 187 0 = iCONST 0 :: iST 2 1 :: iCONST 0 :: iST 3 1 :: iCONST 0 :: iST 4 0 :: am_ju 187 6 := rfl
theorem ju_187_6 : am_ju 187 6 = iLD 4 0 :: iLD 1 1 :: ICMP 3 52 :: aLD 0 1 :: gR 11 16 38 1034 :: aLD 0 1 :: gR 11 17 41 1035 :: iLD 4 0 :: iALD :: iALD :: iST 5 0 :: aLD 0 1 :: iLD 5 0 :: CALL 176 2 2 214 1326 :: iST 6 0 :: iLD 2 1 :: iCONST 2 :: iLD 6 0 :: iMUL :: iCONST 1 :: iADD :: iADD :: iST 2 1 :: iLD 3 1 :: iLD 6 0 :: IFC 0 39 :: iLD 2 1 :: iCONST 3 :: iLD 6 0 :: iMUL :: iCONST 2 :: iADD :: ICMP 4 47 :: am_ju 187 39 := rfl
theorem ju_187_39 : am_ju 187 39 = aLD 0 1 :: gR 11 0 7 1018 :: iLD 5 0 :: CALL 25 1 0 59 1093 :: iCONST 3 :: iADD :: iALD :: GOTO 48 :: am_ju 187 47 := rfl
theorem ju_187_47 : am_ju 187 47 = iCONST 0 :: am_ju 187 48 := rfl
theorem ju_187_48 : am_ju 187 48 = iADD :: iST 3 1 :: IINC 4 1 :: GOTO 6 :: am_ju 187 52 := rfl
theorem ju_187_52 : am_ju 187 52 = iLD 3 1 :: iRET :: [] := rfl
set_option maxRecDepth 100000 in
theorem ju_188_0 : am_ju 188 0 = iLD 1 1 :: iCONST (-1) :: bPUSH 7 :: CALL 17 3 0 47 1080 :: IFC 1 7 :: iCONST (-1) :: iRET :: am_ju 188 7 := rfl
set_option maxRecDepth 100000 in
theorem ju_188_7 : am_ju 188 7 = iCONST 0 :: iST 2 1 :: iCONST 0 :: iST 3 1 :: am_ju 188 11 := rfl
set_option maxRecDepth 100000 in
theorem ju_188_11 : am_ju 188 11 = iLD 3 1 :: aLD 0 1 :: gR 11 0 7 1018 :: iCONST 1 :: iALD :: ICMP 3 34 :: aLD 0 1 :: iLD 3 1 :: CALL 175 2 2 211 1322 :: IFC 0 32 :: iLD 2 1 :: bPUSH 6 :: ICMP 1 26 :: bPUSH (-3) :: iRET :: am_ju 188 26 := rfl
set_option maxRecDepth 100000 in
theorem ju_188_26 : am_ju 188 26 = aLD 0 1 :: gR 11 16 38 1034 :: iLD 2 1 :: iLD 3 1 :: iAST :: IINC 2 1 :: am_ju 188 32 := rfl
set_option maxRecDepth 100000 in
theorem ju_188_32 : am_ju 188 32 = IINC 3 1 :: GOTO 11 :: am_ju 188 34 := rfl
set_option maxRecDepth 100000 in
theorem ju_188_34 : am_ju 188 34 = iCONST (-1) :: iST 3 1 :: iCONST 0 :: iST 4 0 :: am_ju 188 38 := rfl
set_option maxRecDepth 100000 in
theorem ju_188_38 : am_ju 188 38 = iLD 4 0 :: aLD 0 1 :: iLD 2 1 :: iLD 2 1 :: CALL 158 3 2 198 1294 :: ICMP 3 85 :: aLD 0 1 :: iLD 4 0 :: iLD 2 1 :: CALL 186 3 2 217 1334 :: IFC 0 53 :: aLD 0 1 :: iLD 2 1 :: CALL 187 2 2 220 1338 :: GOTO 54 :: am_ju 188 53 := rfl
set_option maxRecDepth 100000 in
theorem ju_188_53 : am_ju 188 53 = iCONST (-1) :: am_ju 188 54 := rfl
set_option maxRecDepth 100000 in
theorem ju_188_54 : am_ju 188 54 = iST 5 0 :: iCONST 0 :: iST 6 0 :: am_ju 188 57 := rfl
set_option maxRecDepth 100000 in
theorem ju_188_57 : am_ju 188 57 = iLD 6 0 :: iLD 2 1 :: ICMP 3 76 :: iLD 5 0 :: iLD 3 1 :: ICMP 5 76 :: aLD 0 1 :: gR 11 18 44 1036 :: iLD 6 0 :: aLD 0 1 :: gR 11 16 38 1034 :: aLD 0 1 :: gR 11 17 41 1035 :: iLD 6 0 :: iALD :: iALD :: iAST :: IINC 6 1 :: GOTO 57 :: am_ju 188 76 := rfl
set_option maxRecDepth 100000 in
theorem ju_188_76 : am_ju 188 76 = iLD 5 0 :: iLD 3 1 :: ICMP 5 81 :: iLD 5 0 :: GOTO 82 :: am_ju 188 81 := rfl
set_option maxRecDepth 100000 in
theorem ju_188_81 : am_ju 188 81 = iLD 3 1 :: am_ju 188 82 := rfl
set_option maxRecDepth 100000 in
theorem ju_188_82 : am_ju 188 82 = iST 3 1 :: IINC 4 1 :: GOTO 38 :: am_ju 188 85 := rfl
set_option maxRecDepth 100000 in
theorem ju_188_85 : am_ju 188 85 = iLD 1 1 :: iCONST (-1) :: ICMP 1 90 :: iLD 3 1 :: GOTO 99 :: am_ju 188 90 := rfl
set_option maxRecDepth 100000 in
theorem ju_188_90 : am_ju 188 90 = iLD 1 1 :: iLD 2 1 :: ICMP 3 98 :: aLD 0 1 :: gR 11 18 44 1036 :: iLD 1 1 :: iALD :: GOTO 99 :: am_ju 188 98 := rfl
set_option maxRecDepth 100000 in
theorem ju_188_98 : am_ju 188 98 = bPUSH (-4) :: am_ju 188 99 := rfl
set_option maxRecDepth 100000 in
theorem ju_188_99 : am_ju 188 99 = iRET :: [] := rfl
theorem ju_189_0 : am_ju 189 0 = iCONST 0 :: iST 4 0 :: iCONST 0 :: iST 5 0 :: iCONST 0 :: iST 6 0 :: iCONST 0 :: iST 7 0 :: aLD 0 1 :: gR 10 0 59 390 :: gR 9 2 107 225 :: gI 3 4 205 179 :: iST 8 0 :: am_ju 189 13 := rfl
theorem ju_189_13 : am_ju 189 13 = iLD 8 0 :: aLD 0 1 :: gR 10 0 59 390 :: gR 9 1 198 222 :: gI 8 1 201 152 :: ICMP 3 49 :: iLD 7 0 :: iLD 3 1 :: ICMP 1 30 :: iLD 6 0 :: IFC 1 26 :: iCONST 1 :: GOTO 27 :: am_ju 189 26 := rfl
theorem ju_189_26 : am_ju 189 26 = iCONST 0 :: am_ju 189 27 := rfl
theorem ju_189_27 : am_ju 189 27 = iST 6 0 :: iCONST 0 :: iST 7 0 :: am_ju 189 30 := rfl
theorem ju_189_30 : am_ju 189 30 = iLD 4 0 :: iLD 6 0 :: IFC 0 35 :: iLD 2 1 :: GOTO 36 :: am_ju 189 35 := rfl
theorem ju_189_35 : am_ju 189 35 = iLD 1 1 :: am_ju 189 36 := rfl
theorem ju_189_36 : am_ju 189 36 = iADD :: iST 4 0 :: iLD 5 0 :: iLD 6 0 :: IFC 0 43 :: iLD 1 1 :: GOTO 44 :: am_ju 189 43 := rfl
theorem ju_189_43 : am_ju 189 43 = iLD 2 1 :: am_ju 189 44 := rfl
theorem ju_189_44 : am_ju 189 44 = iADD :: iST 5 0 :: IINC 7 1 :: IINC 8 1 :: GOTO 13 :: am_ju 189 49 := rfl
theorem ju_189_49 : am_ju 189 49 = iLD 4 0 :: iLD 5 0 :: MMAX 357 915 :: iRET :: [] := rfl
theorem ju_190_0 : am_ju 190 0 = aLD 0 1 :: gR 10 0 59 390 :: gR 9 0 82 217 :: iLD 1 1 :: CALL 28 2 2 104 469 :: IFC 0 12 :: aLD 0 1 :: gR 10 0 59 390 :: gR 9 0 82 217 :: iLD 2 1 :: CALL 28 2 2 104 469 :: IFC 1 14 :: am_ju 190 12 := rfl
theorem ju_190_12 : am_ju 190 12 = iCONST (-1) :: iRET :: am_ju 190 14 := rfl
theorem ju_190_14 : am_ju 190 14 = iLD 1 1 :: iLD 2 1 :: ICMP 0 21 :: iLD 3 1 :: iCONST 2 :: CALL 12 2 0 78 428 :: IFC 1 23 :: am_ju 190 21 := rfl
theorem ju_190_21 : am_ju 190 21 = iCONST (-1) :: iRET :: am_ju 190 23 := rfl
theorem ju_190_23 : am_ju 190 23 = aLD 0 1 :: gR 10 0 59 390 :: gR 9 0 82 217 :: gR 2 1 156 98 :: aLD 0 1 :: gR 10 0 59 390 :: iLD 1 1 :: CALL 39 2 2 123 488 :: CALL 40 2 0 273 852 :: iST 4 0 :: aLD 0 1 :: gR 10 0 59 390 :: gR 9 0 82 217 :: gR 2 1 156 98 :: aLD 0 1 :: gR 10 0 59 390 :: iLD 2 1 :: CALL 39 2 2 123 488 :: CALL 40 2 0 273 852 :: iST 5 0 :: iCONST 1 :: iST 6 0 :: aLD 0 1 :: iLD 4 0 :: iLD 5 0 :: iCONST 1 :: CALL 189 4 2 295 911 :: iST 7 0 :: iCONST 2 :: iST 8 0 :: am_ju 190 53 := rfl
theorem ju_190_53 : am_ju 190 53 = iLD 8 0 :: bPUSH 20 :: ICMP 4 71 :: aLD 0 1 :: iLD 4 0 :: iLD 5 0 :: iLD 8 0 :: CALL 189 4 2 295 911 :: iST 9 0 :: iLD 9 0 :: iLD 7 0 :: ICMP 3 69 :: iLD 9 0 :: iST 7 0 :: iLD 8 0 :: iST 6 0 :: am_ju 190 69 := rfl
theorem ju_190_69 : am_ju 190 69 = IINC 8 1 :: GOTO 53 :: am_ju 190 71 := rfl
theorem ju_190_71 : am_ju 190 71 = iLD 3 1 :: IFC 1 75 :: iLD 6 0 :: GOTO 76 :: am_ju 190 75 := rfl
theorem ju_190_75 : am_ju 190 75 = iLD 7 0 :: am_ju 190 76 := rfl
theorem ju_190_76 : am_ju 190 76 = iRET :: [] := rfl
theorem ju_191_0 : am_ju 191 0 = iCONST 0 :: iST 4 0 :: iCONST 0 :: iST 5 0 :: iCONST 0 :: iST 6 0 :: am_ju 191 6 := rfl
theorem ju_191_6 : am_ju 191 6 = iLD 6 0 :: aLD 0 1 :: gR 11 0 7 1018 :: iCONST 2 :: iALD :: aLD 0 1 :: gR 11 0 7 1018 :: iCONST 3 :: iALD :: iSUB :: ICMP 3 54 :: iLD 6 0 :: iLD 3 1 :: iDIV :: iCONST 2 :: iREM :: iCONST 1 :: ICMP 1 26 :: iCONST 1 :: GOTO 27 :: am_ju 191 26 := rfl
theorem ju_191_26 : am_ju 191 26 = iCONST 0 :: am_ju 191 27 := rfl
theorem ju_191_27 : am_ju 191 27 = iST 7 0 :: iLD 4 0 :: aLD 0 1 :: gR 11 0 7 1018 :: iLD 7 0 :: IFC 0 35 :: iLD 2 1 :: GOTO 36 :: am_ju 191 35 := rfl
theorem ju_191_35 : am_ju 191 35 = iLD 1 1 :: am_ju 191 36 := rfl
theorem ju_191_36 : am_ju 191 36 = iCONST 0 :: CALL 46 3 0 80 1126 :: iADD :: iST 4 0 :: iLD 5 0 :: aLD 0 1 :: gR 11 0 7 1018 :: iLD 7 0 :: IFC 0 47 :: iLD 1 1 :: GOTO 48 :: am_ju 191 47 := rfl
theorem ju_191_47 : am_ju 191 47 = iLD 2 1 :: am_ju 191 48 := rfl
theorem ju_191_48 : am_ju 191 48 = iCONST 0 :: CALL 46 3 0 80 1126 :: iADD :: iST 5 0 :: IINC 6 1 :: GOTO 6 :: am_ju 191 54 := rfl
theorem ju_191_54 : am_ju 191 54 = iLD 4 0 :: iLD 5 0 :: ICMP 5 59 :: iLD 4 0 :: GOTO 60 :: am_ju 191 59 := rfl
theorem ju_191_59 : am_ju 191 59 = iLD 5 0 :: am_ju 191 60 := rfl
theorem ju_191_60 : am_ju 191 60 = iRET :: [] := rfl
theorem ju_192_0 : am_ju 192 0 = aLD 0 1 :: iLD 1 1 :: CALL 33 2 2 70 1104 :: IFC 0 16 :: aLD 0 1 :: iLD 2 1 :: CALL 33 2 2 70 1104 :: IFC 0 16 :: iLD 1 1 :: iLD 2 1 :: ICMP 0 16 :: iLD 3 1 :: iCONST 0 :: iCONST 1 :: CALL 17 3 0 47 1080 :: IFC 1 18 :: am_ju 192 16 := rfl
theorem ju_192_16 : am_ju 192 16 = iCONST (-1) :: iRET :: am_ju 192 18 := rfl
theorem ju_192_18 : am_ju 192 18 = iCONST 1 :: iST 4 0 :: iCONST 2 :: iST 5 0 :: am_ju 192 22 := rfl
theorem ju_192_22 : am_ju 192 22 = iLD 5 0 :: bPUSH 21 :: ICMP 3 42 :: aLD 0 1 :: iLD 1 1 :: iLD 2 1 :: iLD 5 0 :: CALL 191 4 2 223 1346 :: aLD 0 1 :: iLD 1 1 :: iLD 2 1 :: iLD 4 0 :: CALL 191 4 2 223 1346 :: ICMP 3 38 :: iLD 5 0 :: GOTO 39 :: am_ju 192 38 := rfl
theorem ju_192_38 : am_ju 192 38 = iLD 4 0 :: am_ju 192 39 := rfl
theorem ju_192_39 : am_ju 192 39 = iST 4 0 :: IINC 5 1 :: GOTO 22 :: am_ju 192 42 := rfl
theorem ju_192_42 : am_ju 192 42 = iLD 3 1 :: IFC 1 46 :: iLD 4 0 :: GOTO 51 :: am_ju 192 46 := rfl
theorem ju_192_46 : am_ju 192 46 = aLD 0 1 :: iLD 1 1 :: iLD 2 1 :: iLD 4 0 :: CALL 191 4 2 223 1346 :: am_ju 192 51 := rfl
theorem ju_192_51 : am_ju 192 51 = iRET :: [] := rfl
theorem ju_193_0 : am_ju 193 0 = aLD 0 1 :: gR 4 0 44 334 :: gR 9 1 54 221 :: aST 3 1 :: aLD 0 1 :: gR 4 0 44 334 :: aLD 0 1 :: gR 4 1 12 335 :: iLD 1 1 :: aLD 0 1 :: gR 4 0 44 334 :: iLD 1 1 :: CALL 39 2 2 80 747 :: CALL 42 4 2 48 748 :: aLD 0 1 :: gR 4 0 44 334 :: gR 9 2 58 224 :: gI 3 4 62 177 :: iST 4 0 :: am_ju 193 19 := rfl
theorem ju_193_19 : am_ju 193 19 = iLD 4 0 :: aLD 3 1 :: gI 8 1 106 149 :: ICMP 3 45 :: aLD 0 1 :: gR 4 2 18 336 :: iLD 4 0 :: DUP2 :: iALD :: aLD 0 1 :: gR 4 1 12 335 :: aLD 0 1 :: gR 4 0 44 334 :: gR 9 0 71 218 :: aLD 3 1 :: iLD 4 0 :: CALL 100 2 2 97 767 :: aLD 3 1 :: iLD 4 0 :: iLD 2 1 :: CALL 113 3 2 116 777 :: CALL 117 4 2 177 928 :: iOR :: iAST :: IINC 4 1 :: GOTO 19 :: am_ju 193 45 := rfl
theorem ju_193_45 : am_ju 193 45 = vRET :: [] := rfl
theorem ju_194_0 : am_ju 194 0 = aLD 0 1 :: gR 4 2 18 336 :: iCONST 0 :: CALL 79 2 0 128 811 :: aLD 0 1 :: iLD 1 1 :: iLD 2 1 :: CALL 193 3 2 173 924 :: iCONST 0 :: iST 4 0 :: am_ju 194 10 := rfl
theorem ju_194_10 : am_ju 194 10 = iLD 4 0 :: bPUSH 20 :: ICMP 3 30 :: aLD 0 1 :: gR 4 2 18 336 :: iLD 4 0 :: iALD :: IFC 0 28 :: aLD 0 1 :: gR 4 2 18 336 :: iLD 4 0 :: iALD :: iLD 3 1 :: ICMP 1 26 :: iLD 4 0 :: GOTO 27 :: am_ju 194 26 := rfl
theorem ju_194_26 : am_ju 194 26 = bPUSH 99 :: am_ju 194 27 := rfl
theorem ju_194_27 : am_ju 194 27 = iRET :: am_ju 194 28 := rfl
theorem ju_194_28 : am_ju 194 28 = IINC 4 1 :: GOTO 10 :: am_ju 194 30 := rfl
theorem ju_194_30 : am_ju 194 30 = bPUSH 99 :: iRET :: [] := rfl
theorem ju_195_0 : am_ju 195 0 = aLD 0 1 :: gR 10 0 59 390 :: gR 9 0 82 217 :: iLD 1 1 :: CALL 28 2 2 104 469 :: IFC 0 10 :: iLD 3 1 :: iCONST 2 :: CALL 12 2 0 78 428 :: IFC 1 12 :: am_ju 195 10 := rfl
theorem ju_195_10 : am_ju 195 10 = iCONST (-1) :: iRET :: am_ju 195 12 := rfl
theorem ju_195_12 : am_ju 195 12 = iLD 2 1 :: iCONST 1 :: ICMP 2 23 :: iLD 2 1 :: iCONST 1 :: aLD 0 1 :: gR 10 0 59 390 :: gR 9 0 82 217 :: gI 2 7 93 119 :: iSHL :: ICMP 2 25 :: am_ju 195 23 := rfl
theorem ju_195_23 : am_ju 195 23 = iCONST (-1) :: iRET :: am_ju 195 25 := rfl
theorem ju_195_25 : am_ju 195 25 = iCONST 0 :: iST 4 0 :: bPUSH 99 :: iST 5 0 :: iCONST 0 :: iST 6 0 :: am_ju 195 31 := rfl
theorem ju_195_31 : am_ju 195 31 = iLD 6 0 :: bPUSH 8 :: ICMP 3 51 :: aLD 0 1 :: gR 10 3 67 393 :: iLD 1 1 :: iLD 6 0 :: iLD 2 1 :: CALL 194 4 2 299 920 :: iST 7 0 :: iLD 7 0 :: bPUSH 99 :: ICMP 3 45 :: IINC 4 1 :: am_ju 195 45 := rfl
theorem ju_195_45 : am_ju 195 45 = iLD 5 0 :: iLD 7 0 :: MMIN 302 587 :: iST 5 0 :: IINC 6 1 :: GOTO 31 :: am_ju 195 51 := rfl
theorem ju_195_51 : am_ju 195 51 = iLD 3 1 :: IFC 1 55 :: iLD 4 0 :: GOTO 57 :: am_ju 195 55 := rfl
theorem ju_195_55 : am_ju 195 55 = iLD 5 0 :: CALL 136 1 0 245 756 :: am_ju 195 57 := rfl
theorem ju_195_57 : am_ju 195 57 = iRET :: [] := rfl
theorem ju_196_0 : am_ju 196 0 = aLD 0 1 :: gR 11 0 7 1018 :: aLD 0 1 :: gR 11 1 13 1019 :: CALL 90 2 0 137 1177 :: am_ju 196 5 := rfl
theorem ju_196_5 : am_ju 196 5 = aLD 0 1 :: gR 11 1 13 1019 :: iCONST 3 :: iALD :: aLD 0 1 :: gR 11 1 13 1019 :: iCONST 2 :: iALD :: ICMP 3 39 :: aLD 0 1 :: iLD 1 1 :: pI 11 14 170 1032 :: aLD 0 1 :: aLD 0 1 :: gR 11 1 13 1019 :: iLD 3 1 :: CALL 125 3 2 183 1239 :: POP :: aLD 0 1 :: gI 11 15 157 1033 :: IFC 0 5 :: aLD 0 1 :: gI 11 15 157 1033 :: iLD 2 1 :: ICMP 1 37 :: aLD 0 1 :: gR 11 1 13 1019 :: iCONST 3 :: iALD :: iCONST 1 :: iSUB :: GOTO 38 :: am_ju 196 37 := rfl
theorem ju_196_37 : am_ju 196 37 = iCONST (-1) :: am_ju 196 38 := rfl
theorem ju_196_38 : am_ju 196 38 = iRET :: am_ju 196 39 := rfl
theorem ju_196_39 : am_ju 196 39 = iCONST (-1) :: iRET :: [] := rfl
theorem ju_197_0 : am_ju 197 0 = aLD 0 1 :: iLD 1 1 :: CALL 33 2 2 70 1104 :: IFC 0 21 :: iLD 2 1 :: iCONST 1 :: iCONST 1 :: aLD 0 1 :: gR 11 0 7 1018 :: iCONST 1 :: iALD :: iSHL :: iCONST 1 :: iSUB :: CALL 17 3 0 47 1080 :: IFC 0 21 :: iLD 3 1 :: iCONST 0 :: iCONST 1 :: CALL 17 3 0 47 1080 :: IFC 1 23 :: am_ju 197 21 := rfl
theorem ju_197_21 : am_ju 197 21 = iCONST (-1) :: iRET :: am_ju 197 23 := rfl
theorem ju_197_23 : am_ju 197 23 = iCONST 0 :: iST 4 0 :: iCONST (-1) :: iST 5 0 :: iCONST 0 :: iST 6 0 :: am_ju 197 29 := rfl
theorem ju_197_29 : am_ju 197 29 = iLD 6 0 :: bPUSH 8 :: ICMP 3 59 :: aLD 0 1 :: iLD 1 1 :: iLD 2 1 :: iLD 6 0 :: CALL 196 4 2 227 1354 :: iST 7 0 :: iLD 7 0 :: IFC 2 47 :: iLD 5 0 :: IFC 2 45 :: iLD 7 0 :: iLD 5 0 :: ICMP 3 47 :: am_ju 197 45 := rfl
theorem ju_197_45 : am_ju 197 45 = iLD 7 0 :: GOTO 48 :: am_ju 197 47 := rfl
theorem ju_197_47 : am_ju 197 47 = iLD 5 0 :: am_ju 197 48 := rfl
theorem ju_197_48 : am_ju 197 48 = iST 5 0 :: iLD 4 0 :: iLD 7 0 :: IFC 2 54 :: iCONST 1 :: GOTO 55 :: am_ju 197 54 := rfl
theorem ju_197_54 : am_ju 197 54 = iCONST 0 :: am_ju 197 55 := rfl
theorem ju_197_55 : am_ju 197 55 = iADD :: iST 4 0 :: IINC 6 1 :: GOTO 29 :: am_ju 197 59 := rfl
theorem ju_197_59 : am_ju 197 59 = iLD 3 1 :: IFC 1 63 :: iLD 4 0 :: GOTO 68 :: am_ju 197 63 := rfl
theorem ju_197_63 : am_ju 197 63 = iLD 5 0 :: IFC 3 67 :: bPUSH (-4) :: GOTO 68 :: am_ju 197 67 := rfl
theorem ju_197_67 : am_ju 197 67 = iLD 5 0 :: am_ju 197 68 := rfl
theorem ju_197_68 : am_ju 197 68 = iRET :: [] := rfl
theorem ju_198_0 : am_ju 198 0 = iCONST 0 :: iST 2 1 :: am_ju 198 2 := rfl
theorem ju_198_2 : am_ju 198 2 = iLD 2 1 :: bPUSH 8 :: ICMP 3 16 :: aLD 0 1 :: gR 5 0 11 204 :: iLD 2 1 :: aALD :: aLD 1 1 :: gR 5 0 11 204 :: iLD 2 1 :: aALD :: CALL 110 2 2 25 680 :: IINC 2 1 :: GOTO 2 :: am_ju 198 16 := rfl
theorem ju_198_16 : am_ju 198 16 = aLD 0 1 :: aLD 1 1 :: gI 5 1 17 205 :: pI 5 1 17 205 :: aLD 0 1 :: aLD 1 1 :: gI 5 2 21 206 :: pI 5 2 21 206 :: vRET :: [] := rfl
theorem ju_199_0 : am_ju 199 0 = aLD 0 1 :: gR 9 0 12 216 :: aLD 1 1 :: gR 9 0 12 216 :: CALL 87 2 2 71 635 :: aLD 0 1 :: gR 9 1 21 220 :: aLD 1 1 :: gR 9 1 21 220 :: CALL 72 2 2 64 580 :: aLD 0 1 :: gR 9 2 28 223 :: aLD 1 1 :: gR 9 2 28 223 :: CALL 110 2 2 82 937 :: aLD 0 1 :: gR 9 3 35 226 :: aLD 1 1 :: gR 9 3 35 226 :: CALL 198 2 2 85 938 :: vRET :: [] := rfl
theorem ju_200_0 : am_ju 200 0 = aLD 0 1 :: gR 10 1 10 391 :: aLD 0 1 :: gR 10 0 59 390 :: CALL 199 2 2 307 933 :: aLD 0 1 :: iCONST 1 :: pZ 10 2 16 392 :: iCONST 1 :: iRET :: [] := rfl
theorem ju_201_0 : am_ju 201 0 = aLD 0 1 :: gR 11 0 7 1018 :: aLD 0 1 :: gR 11 3 19 1021 :: CALL 90 2 0 137 1177 :: aLD 0 1 :: iCONST 1 :: pZ 11 4 230 1022 :: iCONST 1 :: iRET :: [] := rfl
theorem ju_202_0 : am_ju 202 0 = aLD 0 1 :: gI 10 2 16 392 :: IFC 1 5 :: bPUSH (-4) :: iRET :: am_ju 202 5 := rfl
theorem ju_202_5 : am_ju 202 5 = aLD 0 1 :: gR 10 0 59 390 :: aLD 0 1 :: gR 10 1 10 391 :: CALL 199 2 2 307 933 :: iCONST 1 :: iRET :: [] := rfl
theorem ju_203_0 : am_ju 203 0 = aLD 0 1 :: gI 11 4 230 1022 :: IFC 1 5 :: bPUSH (-4) :: iRET :: am_ju 203 5 := rfl
theorem ju_203_5 : am_ju 203 5 = aLD 0 1 :: gR 11 3 19 1021 :: aLD 0 1 :: gR 11 0 7 1018 :: CALL 90 2 0 137 1177 :: iCONST 1 :: iRET :: [] := rfl
theorem ju_204_0 : am_ju 204 0 = iLD 0 1 :: iCONST 4 :: CALL 12 2 0 78 428 :: IFC 0 10 :: iLD 1 1 :: iCONST 4 :: CALL 12 2 0 78 428 :: IFC 0 10 :: iCONST 1 :: GOTO 11 :: am_ju 204 10 := rfl
theorem ju_204_10 : am_ju 204 10 = iCONST 0 :: am_ju 204 11 := rfl
theorem ju_204_11 : am_ju 204 11 = zRET :: [] := rfl
theorem ju_205_0 : am_ju 205 0 = iLD 1 1 :: IFC 2 16 :: iLD 2 1 :: IFC 2 16 :: iLD 2 1 :: aLD 0 1 :: gI 6 3 23 314 :: ICMP 4 16 :: iLD 1 1 :: aLD 0 1 :: gI 6 3 23 314 :: iLD 2 1 :: iSUB :: ICMP 4 16 :: iCONST 1 :: GOTO 17 :: am_ju 205 16 := rfl
theorem ju_205_16 : am_ju 205 16 = iCONST 0 :: am_ju 205 17 := rfl
theorem ju_205_17 : am_ju 205 17 = zRET :: [] := rfl
theorem ju_206_0 : am_ju 206 0 = aLD 0 1 :: gI 6 1 15 310 :: IFC 0 5 :: bPUSH (-11) :: iRET :: am_ju 206 5 := rfl
theorem ju_206_5 : am_ju 206 5 = iLD 1 1 :: aLD 0 1 :: gI 6 2 19 312 :: ICMP 0 11 :: bPUSH (-12) :: iRET :: am_ju 206 11 := rfl
theorem ju_206_11 : am_ju 206 11 = aLD 0 1 :: iLD 2 1 :: iLD 3 1 :: CALL 205 3 2 38 957 :: IFC 0 18 :: iCONST 0 :: GOTO 19 :: am_ju 206 18 := rfl
theorem ju_206_18 : am_ju 206 18 = bPUSH (-13) :: am_ju 206 19 := rfl
theorem ju_206_19 : am_ju 206 19 = iRET :: [] := rfl
theorem ju_207_0 : am_ju 207 0 = iLD 1 1 :: bPUSH 24 :: CALL 12 2 1 42 970 :: IFC 0 9 :: aLD 0 1 :: gR 6 0 9 308 :: iLD 1 1 :: lALD :: GOTO 10 :: am_ju 207 9 := rfl
theorem ju_207_9 : am_ju 207 9 = lCONST 0 :: am_ju 207 10 := rfl
theorem ju_207_10 : am_ju 207 10 = lRET :: [] := rfl
theorem ju_208_0 : am_ju 208 0 = aLD 0 1 :: gR 4 0 44 334 :: aLD 0 1 :: gR 4 1 12 335 :: iLD 1 1 :: aLD 0 1 :: gR 4 0 44 334 :: iLD 1 1 :: CALL 39 2 2 80 747 :: CALL 42 4 2 48 748 :: aLD 0 1 :: gR 4 1 12 335 :: iLD 2 1 :: pI 0 1 181 250 :: iCONST 0 :: iST 6 0 :: am_ju 208 16 := rfl
theorem ju_208_16 : am_ju 208 16 = iLD 6 0 :: iLD 5 0 :: ICMP 3 47 :: aLD 0 1 :: gR 4 1 12 335 :: aLD 0 1 :: gR 4 0 44 334 :: gR 9 1 54 221 :: aLD 0 1 :: gR 4 0 44 334 :: gR 9 2 58 224 :: gI 3 4 62 177 :: iLD 6 0 :: iADD :: CALL 100 2 2 97 767 :: CALL 114 2 2 109 772 :: aLD 0 1 :: gR 4 1 12 335 :: CALL 43 1 2 184 965 :: ITL :: aLD 3 1 :: iLD 4 0 :: iLD 6 0 :: iADD :: CALL 207 2 2 187 966 :: lCMP :: IFC 0 45 :: iCONST 0 :: zRET :: am_ju 208 45 := rfl
theorem ju_208_45 : am_ju 208 45 = IINC 6 1 :: GOTO 16 :: am_ju 208 47 := rfl
theorem ju_208_47 : am_ju 208 47 = iCONST 1 :: zRET :: [] := rfl
theorem ju_209_0 : am_ju 209 0 = aLD 0 1 :: gR 10 0 59 390 :: gR 9 0 82 217 :: iLD 1 1 :: CALL 28 2 2 104 469 :: IFC 0 14 :: iLD 2 1 :: iLD 3 1 :: CALL 204 2 0 310 950 :: IFC 0 14 :: iLD 6 0 :: iCONST 2 :: CALL 12 2 0 78 428 :: IFC 1 16 :: am_ju 209 14 := rfl
theorem ju_209_14 : am_ju 209 14 = iCONST (-1) :: iRET :: am_ju 209 16 := rfl
theorem ju_209_16 : am_ju 209 16 = iLD 5 0 :: iCONST 1 :: ICMP 2 27 :: iLD 5 0 :: bPUSH 8 :: ICMP 4 27 :: iLD 5 0 :: aLD 0 1 :: gR 10 0 59 390 :: CALL 109 1 2 228 667 :: ICMP 5 29 :: am_ju 209 27 := rfl
theorem ju_209_27 : am_ju 209 27 = iCONST (-1) :: iRET :: am_ju 209 29 := rfl
theorem ju_209_29 : am_ju 209 29 = aLD 0 1 :: gR 10 10 55 400 :: iLD 2 1 :: aALD :: iLD 3 1 :: iLD 4 0 :: iLD 5 0 :: CALL 206 4 2 313 953 :: iST 7 0 :: iLD 7 0 :: IFC 0 42 :: iLD 7 0 :: iRET :: am_ju 209 42 := rfl
theorem ju_209_42 : am_ju 209 42 = iCONST 0 :: iST 8 0 :: bPUSH (-4) :: iST 9 0 :: bPUSH 99 :: iST 10 0 :: am_ju 209 48 := rfl
theorem ju_209_48 : am_ju 209 48 = iLD 10 0 :: IFC 2 67 :: aLD 0 1 :: gR 10 3 67 393 :: iLD 1 1 :: iLD 10 0 :: aLD 0 1 :: gR 10 10 55 400 :: iLD 2 1 :: aALD :: iLD 4 0 :: iLD 5 0 :: CALL 208 6 2 316 961 :: IFC 0 65 :: IINC 8 1 :: iLD 10 0 :: iST 9 0 :: am_ju 209 65 := rfl
theorem ju_209_65 : am_ju 209 65 = IINC 10 (-1) :: GOTO 48 :: am_ju 209 67 := rfl
theorem ju_209_67 : am_ju 209 67 = iLD 6 0 :: IFC 1 71 :: iLD 8 0 :: GOTO 72 :: am_ju 209 71 := rfl
theorem ju_209_71 : am_ju 209 71 = iLD 9 0 :: am_ju 209 72 := rfl
theorem ju_209_72 : am_ju 209 72 = iRET :: [] := rfl
theorem ju_210_0 : am_ju 210 0 = iLD 0 1 :: iCONST 0 :: iCONST 3 :: CALL 17 3 0 47 1080 :: zRET :: [] := rfl
theorem ju_211_0 : am_ju 211 0 = iLD 0 1 :: iCONST 0 :: iCONST 3 :: CALL 17 3 0 47 1080 :: zRET :: [] := rfl
theorem ju_212_0 : am_ju 212 0 = aLD 0 1 :: gR 11 7 25 1025 :: iLD 1 1 :: iALD :: IFC 3 7 :: bPUSH (-11) :: iRET :: am_ju 212 7 := rfl
theorem ju_212_7 : am_ju 212 7 = aLD 0 1 :: gR 11 7 25 1025 :: iLD 1 1 :: iALD :: iLD 2 1 :: ICMP 0 15 :: bPUSH (-12) :: iRET :: am_ju 212 15 := rfl
theorem ju_212_15 : am_ju 212 15 = iLD 3 1 :: IFC 2 31 :: iLD 3 1 :: aLD 0 1 :: gR 11 8 28 1026 :: iLD 1 1 :: iALD :: ICMP 4 31 :: iLD 4 0 :: aLD 0 1 :: gR 11 8 28 1026 :: iLD 1 1 :: iALD :: iLD 3 1 :: iSUB :: ICMP 5 33 :: am_ju 212 31 := rfl
theorem ju_212_31 : am_ju 212 31 = bPUSH (-13) :: GOTO 34 :: am_ju 212 33 := rfl
theorem ju_212_33 : am_ju 212 33 = iCONST 0 :: am_ju 212 34 := rfl
theorem ju_212_34 : am_ju 212 34 = iRET :: [] := rfl
theorem ju_213_0 : am_ju 213 0 = aLD 0 1 :: gR 11 0 7 1018 :: aLD 0 1 :: gR 11 1 13 1019 :: CALL 90 2 0 137 1177 :: aLD 0 1 :: gR 11 1 13 1019 :: iLD 1 1 :: CALL 18 1 0 51 1086 :: iCONST 1 :: iADD :: iLD 2 1 :: iAST :: iCONST 1 :: iST 5 0 :: iCONST 0 :: iST 6 0 :: am_ju 213 17 := rfl
theorem ju_213_17 : am_ju 213 17 = iLD 6 0 :: iLD 4 0 :: ICMP 3 61 :: aLD 0 1 :: gR 11 1 13 1019 :: iLD 1 1 :: CALL 45 2 0 76 1123 :: IFC 0 40 :: aLD 0 1 :: gR 11 1 13 1019 :: iLD 1 1 :: aLD 0 1 :: gR 11 1 13 1019 :: bPUSH 66 :: aLD 0 1 :: gR 11 1 13 1019 :: iCONST 3 :: iALD :: iADD :: iLD 6 0 :: iADD :: iALD :: CALL 122 3 0 160 1243 :: am_ju 213 40 := rfl
theorem ju_213_40 : am_ju 213 40 = iLD 5 0 :: IFC 0 57 :: aLD 0 1 :: gR 11 9 31 1027 :: iLD 3 1 :: iLD 6 0 :: iADD :: lALD :: aLD 0 1 :: gR 11 1 13 1019 :: iLD 1 1 :: CALL 47 2 0 84 1129 :: ITL :: lCMP :: IFC 1 57 :: iCONST 1 :: GOTO 58 :: am_ju 213 57 := rfl
theorem ju_213_57 : am_ju 213 57 = iCONST 0 :: am_ju 213 58 := rfl
theorem ju_213_58 : am_ju 213 58 = iST 5 0 :: IINC 6 1 :: GOTO 17 :: am_ju 213 61 := rfl
theorem ju_213_61 : am_ju 213 61 = iLD 5 0 :: zRET :: [] := rfl
theorem ju_214_0 : am_ju 214 0 = aLD 0 1 :: iLD 1 1 :: CALL 33 2 2 70 1104 :: IFC 0 31 :: iLD 2 1 :: CALL 210 1 0 233 1370 :: IFC 0 31 :: iLD 3 1 :: CALL 211 1 0 236 1373 :: IFC 0 31 :: iLD 5 0 :: iCONST 1 :: bPUSH 8 :: CALL 17 3 0 47 1080 :: IFC 0 31 :: iLD 5 0 :: aLD 0 1 :: gR 11 0 7 1018 :: iCONST 2 :: iALD :: aLD 0 1 :: gR 11 0 7 1018 :: iCONST 3 :: iALD :: iSUB :: ICMP 4 31 :: iLD 6 0 :: iCONST 0 :: iCONST 1 :: CALL 17 3 0 47 1080 :: IFC 1 33 :: am_ju 214 31 := rfl
theorem ju_214_31 : am_ju 214 31 = iCONST (-1) :: iRET :: am_ju 214 33 := rfl
theorem ju_214_33 : am_ju 214 33 = aLD 0 1 :: iLD 2 1 :: iLD 3 1 :: iLD 4 0 :: iLD 5 0 :: CALL 212 5 2 239 1376 :: iST 7 0 :: iLD 7 0 :: IFC 0 44 :: iLD 7 0 :: iRET :: am_ju 214 44 := rfl
theorem ju_214_44 : am_ju 214 44 = iCONST 0 :: iST 8 0 :: bPUSH (-4) :: iST 9 0 :: iCONST 0 :: iST 10 0 :: am_ju 214 50 := rfl
theorem ju_214_50 : am_ju 214 50 = iLD 10 0 :: bPUSH 100 :: ICMP 3 82 :: aLD 0 1 :: iLD 1 1 :: iLD 10 0 :: bPUSH 24 :: iLD 2 1 :: iMUL :: iLD 4 0 :: iADD :: iLD 5 0 :: CALL 213 5 2 243 1380 :: iST 11 0 :: iLD 11 0 :: IFC 0 70 :: iLD 8 0 :: IFC 1 70 :: iLD 10 0 :: GOTO 71 :: am_ju 214 70 := rfl
theorem ju_214_70 : am_ju 214 70 = iLD 9 0 :: am_ju 214 71 := rfl
theorem ju_214_71 : am_ju 214 71 = iST 9 0 :: iLD 8 0 :: iLD 11 0 :: IFC 0 77 :: iCONST 1 :: GOTO 78 :: am_ju 214 77 := rfl
theorem ju_214_77 : am_ju 214 77 = iCONST 0 :: am_ju 214 78 := rfl
theorem ju_214_78 : am_ju 214 78 = iADD :: iST 8 0 :: IINC 10 1 :: GOTO 50 :: am_ju 214 82 := rfl
theorem ju_214_82 : am_ju 214 82 = iLD 6 0 :: IFC 1 86 :: iLD 8 0 :: GOTO 87 :: am_ju 214 86 := rfl
theorem ju_214_86 : am_ju 214 86 = iLD 9 0 :: am_ju 214 87 := rfl
theorem ju_214_87 : am_ju 214 87 = iRET :: [] := rfl
theorem ju_215_0 : am_ju 215 0 = aLD 0 1 :: gR 4 2 18 336 :: iCONST 0 :: CALL 79 2 0 128 811 :: iCONST 0 :: iST 2 1 :: am_ju 215 6 := rfl
theorem ju_215_6 : am_ju 215 6 = iLD 2 1 :: aLD 0 1 :: gR 4 0 44 334 :: gR 9 0 71 218 :: gI 2 6 75 115 :: ICMP 3 18 :: aLD 0 1 :: iLD 2 1 :: iLD 1 1 :: CALL 193 3 2 173 924 :: IINC 2 1 :: GOTO 6 :: am_ju 215 18 := rfl
theorem ju_215_18 : am_ju 215 18 = vRET :: [] := rfl
theorem ju_216_0 : am_ju 216 0 = aLD 0 1 :: gI 6 2 19 312 :: TSW [0, 2, 17, 3, 8, 13] :: am_ju 216 3 := rfl
theorem ju_216_3 : am_ju 216 3 = lLD 1 1 :: LTI :: ITB :: ITL :: lRET :: am_ju 216 8 := rfl
theorem ju_216_8 : am_ju 216 8 = lLD 1 1 :: LTI :: ITS :: ITL :: lRET :: am_ju 216 13 := rfl
theorem ju_216_13 : am_ju 216 13 = lLD 1 1 :: LTI :: ITL :: lRET :: am_ju 216 17 := rfl
theorem ju_216_17 : am_ju 216 17 = lLD 1 1 :: lRET :: [] := rfl
theorem ju_217_0 : am_ju 217 0 = iLD 1 1 :: bPUSH 24 :: CALL 12 2 1 42 970 :: IFC 0 11 :: aLD 0 1 :: gR 6 0 9 308 :: iLD 1 1 :: aLD 0 1 :: lLD 2 1 :: CALL 216 2 2 45 983 :: lAST :: am_ju 217 11 := rfl
theorem ju_217_11 : am_ju 217 11 = vRET :: [] := rfl
theorem ju_218_0 : am_ju 218 0 = iLD 1 1 :: bPUSH 8 :: CALL 12 2 0 78 428 :: IFC 0 8 :: iLD 2 1 :: iLD 3 1 :: CALL 204 2 0 310 950 :: IFC 1 10 :: am_ju 218 8 := rfl
theorem ju_218_8 : am_ju 218 8 = iCONST (-1) :: iRET :: am_ju 218 10 := rfl
theorem ju_218_10 : am_ju 218 10 = aLD 0 1 :: gR 10 0 59 390 :: CALL 109 1 2 228 667 :: iST 5 0 :: aLD 0 1 :: gR 10 10 55 400 :: iLD 2 1 :: aALD :: iLD 3 1 :: iLD 4 0 :: iLD 5 0 :: CALL 206 4 2 313 953 :: iST 6 0 :: iLD 6 0 :: IFC 0 27 :: iLD 6 0 :: iRET :: am_ju 218 27 := rfl
theorem ju_218_27 : am_ju 218 27 = aLD 0 1 :: gR 10 3 67 393 :: iLD 1 1 :: CALL 215 2 2 320 975 :: iCONST 0 :: iST 7 0 :: am_ju 218 33 := rfl
theorem ju_218_33 : am_ju 218 33 = iLD 7 0 :: iLD 5 0 :: ICMP 3 57 :: aLD 0 1 :: gR 10 10 55 400 :: iLD 2 1 :: aALD :: iLD 4 0 :: iLD 7 0 :: iADD :: aLD 0 1 :: gR 10 3 67 393 :: gR 4 2 323 337 :: aLD 0 1 :: gR 10 0 59 390 :: gR 9 2 107 225 :: gI 3 4 205 179 :: iLD 7 0 :: iADD :: iALD :: ITL :: CALL 217 3 2 326 979 :: IINC 7 1 :: GOTO 33 :: am_ju 218 57 := rfl
theorem ju_218_57 : am_ju 218 57 = iLD 5 0 :: iRET :: [] := rfl
theorem ju_219_0 : am_ju 219 0 = iLD 0 1 :: IFC 1 4 :: bPUSH 56 :: GOTO 15 :: am_ju 219 4 := rfl
theorem ju_219_4 : am_ju 219 4 = iLD 0 1 :: iCONST 1 :: ICMP 1 9 :: bPUSH 48 :: GOTO 15 :: am_ju 219 9 := rfl
theorem ju_219_9 : am_ju 219 9 = iLD 0 1 :: iCONST 2 :: ICMP 1 14 :: bPUSH 32 :: GOTO 15 :: am_ju 219 14 := rfl
theorem ju_219_14 : am_ju 219 14 = iCONST 0 :: am_ju 219 15 := rfl
theorem ju_219_15 : am_ju 219 15 = iST 3 1 :: lLD 1 1 :: iLD 3 1 :: lSHL :: iLD 3 1 :: lSHR :: lRET :: [] := rfl
theorem ju_220_0 : am_ju 220 0 = iLD 1 1 :: iCONST 0 :: bPUSH 7 :: CALL 17 3 0 47 1080 :: IFC 0 11 :: iLD 2 1 :: CALL 210 1 0 233 1370 :: IFC 0 11 :: iLD 3 1 :: CALL 211 1 0 236 1373 :: IFC 1 13 :: am_ju 220 11 := rfl
theorem ju_220_11 : am_ju 220 11 = iCONST (-1) :: iRET :: am_ju 220 13 := rfl
theorem ju_220_13 : am_ju 220 13 = aLD 0 1 :: gR 11 0 7 1018 :: iCONST 2 :: iALD :: aLD 0 1 :: gR 11 0 7 1018 :: iCONST 3 :: iALD :: iSUB :: iST 5 0 :: aLD 0 1 :: iLD 2 1 :: iLD 3 1 :: iLD 4 0 :: iLD 5 0 :: CALL 212 5 2 239 1376 :: iST 6 0 :: iLD 6 0 :: IFC 0 34 :: iLD 6 0 :: iRET :: am_ju 220 34 := rfl
theorem ju_220_34 : am_ju 220 34 = aLD 0 1 :: gR 11 0 7 1018 :: aLD 0 1 :: gR 11 1 13 1019 :: CALL 90 2 0 137 1177 :: iCONST 0 :: iST 7 0 :: am_ju 220 41 := rfl
theorem ju_220_41 : am_ju 220 41 = iLD 7 0 :: iLD 5 0 :: ICMP 3 64 :: aLD 0 1 :: gR 11 9 31 1027 :: bPUSH 24 :: iLD 2 1 :: iMUL :: iLD 4 0 :: iADD :: iLD 7 0 :: iADD :: iLD 3 1 :: aLD 0 1 :: aLD 0 1 :: gR 11 1 13 1019 :: iLD 1 1 :: CALL 125 3 2 183 1239 :: ITL :: CALL 219 2 0 247 1388 :: lAST :: IINC 7 1 :: GOTO 41 :: am_ju 220 64 := rfl
theorem ju_220_64 : am_ju 220 64 = iLD 5 0 :: iRET :: [] := rfl
theorem ju_221_0 : am_ju 221 0 = iCONST 0 :: iST 3 1 :: aLD 0 1 :: aLEN :: iST 4 0 :: am_ju 221 5 := rfl
theorem ju_221_5 : am_ju 221 5 = iLD 3 1 :: iLD 4 0 :: ICMP 3 14 :: aLD 0 1 :: iLD 3 1 :: lLD 1 1 :: lAST :: IINC 3 1 :: GOTO 5 :: am_ju 221 14 := rfl
theorem ju_221_14 : am_ju 221 14 = vRET :: [] := rfl
theorem ju_222_0 : am_ju 222 0 = aLD 0 1 :: iCONST 0 :: pZ 6 1 15 310 :: aLD 0 1 :: iLD 1 1 :: pI 6 2 19 312 :: aLD 0 1 :: iLD 2 1 :: bPUSH 24 :: MMIN 26 995 :: pI 6 3 23 314 :: aLD 0 1 :: gR 6 0 9 308 :: lCONST 0 :: CALL 221 2 0 32 996 :: vRET :: [] := rfl
theorem ju_223_0 : am_ju 223 0 = iLD 1 1 :: iLD 2 1 :: CALL 204 2 0 310 950 :: IFC 0 7 :: iLD 3 1 :: bPUSH 24 :: ICMP 5 9 :: am_ju 223 7 := rfl
theorem ju_223_7 : am_ju 223 7 = iCONST (-1) :: iRET :: am_ju 223 9 := rfl
theorem ju_223_9 : am_ju 223 9 = iLD 3 1 :: IFC 3 13 :: bPUSH (-14) :: iRET :: am_ju 223 13 := rfl
theorem ju_223_13 : am_ju 223 13 = aLD 0 1 :: gR 10 10 55 400 :: iLD 1 1 :: aALD :: iLD 2 1 :: iLD 3 1 :: CALL 222 3 2 330 991 :: iLD 3 1 :: iRET :: [] := rfl
theorem ju_224_0 : am_ju 224 0 = iLD 1 1 :: CALL 210 1 0 233 1370 :: IFC 0 9 :: iLD 2 1 :: CALL 211 1 0 236 1373 :: IFC 0 9 :: iLD 3 1 :: bPUSH 24 :: ICMP 5 11 :: am_ju 224 9 := rfl
theorem ju_224_9 : am_ju 224 9 = iCONST (-1) :: iRET :: am_ju 224 11 := rfl
theorem ju_224_11 : am_ju 224 11 = iLD 3 1 :: IFC 3 15 :: bPUSH (-14) :: iRET :: am_ju 224 15 := rfl
theorem ju_224_15 : am_ju 224 15 = aLD 0 1 :: gR 11 7 25 1025 :: iLD 1 1 :: iLD 2 1 :: iAST :: aLD 0 1 :: gR 11 8 28 1026 :: iLD 1 1 :: iLD 3 1 :: iAST :: iCONST 0 :: iST 4 0 :: am_ju 224 27 := rfl
theorem ju_224_27 : am_ju 224 27 = iLD 4 0 :: bPUSH 24 :: ICMP 3 41 :: aLD 0 1 :: gR 11 9 31 1027 :: bPUSH 24 :: iLD 1 1 :: iMUL :: iLD 4 0 :: iADD :: lCONST 0 :: lAST :: IINC 4 1 :: GOTO 27 :: am_ju 224 41 := rfl
theorem ju_224_41 : am_ju 224 41 = iLD 3 1 :: iRET :: [] := rfl
theorem ju_225_0 : am_ju 225 0 = iLD 1 1 :: iCONST 4 :: CALL 12 2 0 78 428 :: IFC 1 6 :: iCONST (-1) :: iRET :: am_ju 225 6 := rfl
theorem ju_225_6 : am_ju 225 6 = aLD 0 1 :: gR 10 10 55 400 :: iLD 1 1 :: aALD :: gI 6 1 334 311 :: IFC 0 14 :: bPUSH (-11) :: iRET :: am_ju 225 14 := rfl
theorem ju_225_14 : am_ju 225 14 = aLD 0 1 :: gR 10 10 55 400 :: iLD 1 1 :: aALD :: iCONST 1 :: pZ 6 1 334 311 :: aLD 0 1 :: gR 10 10 55 400 :: iLD 1 1 :: aALD :: gI 6 3 337 315 :: iRET :: [] := rfl
theorem ju_226_0 : am_ju 226 0 = iLD 1 1 :: CALL 210 1 0 233 1370 :: IFC 1 5 :: iCONST (-1) :: iRET :: am_ju 226 5 := rfl
theorem ju_226_5 : am_ju 226 5 = aLD 0 1 :: gR 11 7 25 1025 :: iLD 1 1 :: iALD :: IFC 3 12 :: bPUSH (-11) :: iRET :: am_ju 226 12 := rfl
theorem ju_226_12 : am_ju 226 12 = aLD 0 1 :: gR 11 7 25 1025 :: iLD 1 1 :: iCONST (-1) :: iAST :: aLD 0 1 :: gR 11 8 28 1026 :: iLD 1 1 :: iALD :: iRET :: [] := rfl
theorem ju_227_0 : am_ju 227 0 = iLD 1 1 :: iLD 2 1 :: CALL 204 2 0 310 950 :: IFC 1 6 :: iCONST (-1) :: iRET :: am_ju 227 6 := rfl
theorem ju_227_6 : am_ju 227 6 = aLD 0 1 :: gR 10 10 55 400 :: iLD 1 1 :: aALD :: iLD 2 1 :: iLD 3 1 :: iCONST 1 :: CALL 206 4 2 313 953 :: iST 6 0 :: iLD 6 0 :: IFC 0 19 :: iLD 6 0 :: iRET :: am_ju 227 19 := rfl
theorem ju_227_19 : am_ju 227 19 = aLD 0 1 :: gR 10 10 55 400 :: iLD 1 1 :: aALD :: iLD 3 1 :: lLD 4 0 :: CALL 217 3 2 326 979 :: iCONST 1 :: iRET :: [] := rfl
theorem ju_228_0 : am_ju 228 0 = iLD 1 1 :: CALL 210 1 0 233 1370 :: IFC 0 6 :: iLD 2 1 :: CALL 211 1 0 236 1373 :: IFC 1 8 :: am_ju 228 6 := rfl
theorem ju_228_6 : am_ju 228 6 = iCONST (-1) :: iRET :: am_ju 228 8 := rfl
theorem ju_228_8 : am_ju 228 8 = aLD 0 1 :: iLD 1 1 :: iLD 2 1 :: iLD 3 1 :: iCONST 1 :: CALL 212 5 2 239 1376 :: iST 6 0 :: iLD 6 0 :: IFC 0 19 :: iLD 6 0 :: iRET :: am_ju 228 19 := rfl
theorem ju_228_19 : am_ju 228 19 = aLD 0 1 :: gR 11 9 31 1027 :: bPUSH 24 :: iLD 1 1 :: iMUL :: iLD 3 1 :: iADD :: iLD 2 1 :: lLD 4 0 :: CALL 219 2 0 247 1388 :: lAST :: iCONST 1 :: iRET :: [] := rfl
theorem ju_229_0 : am_ju 229 0 = iLD 1 1 :: iCONST 4 :: CALL 12 2 0 78 428 :: IFC 0 8 :: iLD 3 1 :: iCONST 4 :: CALL 12 2 0 78 428 :: IFC 1 10 :: am_ju 229 8 := rfl
theorem ju_229_8 : am_ju 229 8 = iCONST (-1) :: iRET :: am_ju 229 10 := rfl
theorem ju_229_10 : am_ju 229 10 = aLD 0 1 :: gR 10 10 55 400 :: iLD 1 1 :: aALD :: aST 6 0 :: aLD 0 1 :: gR 10 10 55 400 :: iLD 3 1 :: aALD :: aST 7 0 :: aLD 6 0 :: gI 6 1 334 311 :: IFC 1 26 :: aLD 7 0 :: gI 6 1 334 311 :: IFC 0 28 :: am_ju 229 26 := rfl
theorem ju_229_26 : am_ju 229 26 = bPUSH (-11) :: iRET :: am_ju 229 28 := rfl
theorem ju_229_28 : am_ju 229 28 = aLD 6 0 :: gI 6 2 338 313 :: aLD 7 0 :: gI 6 2 338 313 :: ICMP 0 35 :: bPUSH (-12) :: iRET :: am_ju 229 35 := rfl
theorem ju_229_35 : am_ju 229 35 = aLD 6 0 :: iLD 2 1 :: iLD 5 0 :: CALL 205 3 2 341 1011 :: IFC 0 45 :: aLD 7 0 :: iLD 4 0 :: iLD 5 0 :: CALL 205 3 2 341 1011 :: IFC 1 47 :: am_ju 229 45 := rfl
theorem ju_229_45 : am_ju 229 45 = bPUSH (-13) :: iRET :: am_ju 229 47 := rfl
theorem ju_229_47 : am_ju 229 47 = aLD 6 0 :: gR 6 0 344 309 :: iLD 2 1 :: aLD 7 0 :: gR 6 0 344 309 :: iLD 4 0 :: iLD 5 0 :: ACPY 348 590 :: iLD 5 0 :: iRET :: [] := rfl
set_option maxRecDepth 100000 in
theorem ju_230_0 : am_ju 230 0 = iLD 1 1 :: CALL 210 1 0 233 1370 :: IFC 0 6 :: iLD 3 1 :: CALL 210 1 0 233 1370 :: IFC 1 8 :: am_ju 230 6 := rfl
set_option maxRecDepth 100000 in
theorem ju_230_6 : am_ju 230 6 = iCONST (-1) :: iRET :: am_ju 230 8 := rfl
set_option maxRecDepth 100000 in
theorem ju_230_8 : am_ju 230 8 = aLD 0 1 :: gR 11 7 25 1025 :: iLD 1 1 :: iALD :: IFC 2 18 :: aLD 0 1 :: gR 11 7 25 1025 :: iLD 3 1 :: iALD :: IFC 3 20 :: am_ju 230 18 := rfl
set_option maxRecDepth 100000 in
theorem ju_230_18 : am_ju 230 18 = bPUSH (-11) :: iRET :: am_ju 230 20 := rfl
set_option maxRecDepth 100000 in
theorem ju_230_20 : am_ju 230 20 = aLD 0 1 :: gR 11 7 25 1025 :: iLD 1 1 :: iALD :: aLD 0 1 :: gR 11 7 25 1025 :: iLD 3 1 :: iALD :: ICMP 0 31 :: bPUSH (-12) :: iRET :: am_ju 230 31 := rfl
set_option maxRecDepth 100000 in
theorem ju_230_31 : am_ju 230 31 = iLD 5 0 :: IFC 2 53 :: aLD 0 1 :: iLD 1 1 :: aLD 0 1 :: gR 11 7 25 1025 :: iLD 1 1 :: iALD :: iLD 2 1 :: iLD 5 0 :: CALL 212 5 2 239 1376 :: IFC 1 53 :: aLD 0 1 :: iLD 3 1 :: aLD 0 1 :: gR 11 7 25 1025 :: iLD 3 1 :: iALD :: iLD 4 0 :: iLD 5 0 :: CALL 212 5 2 239 1376 :: IFC 0 55 :: am_ju 230 53 := rfl
set_option maxRecDepth 100000 in
theorem ju_230_53 : am_ju 230 53 = bPUSH (-13) :: iRET :: am_ju 230 55 := rfl
set_option maxRecDepth 100000 in
theorem ju_230_55 : am_ju 230 55 = iCONST 0 :: iST 6 0 :: am_ju 230 57 := rfl
set_option maxRecDepth 100000 in
theorem ju_230_57 : am_ju 230 57 = iLD 6 0 :: iLD 5 0 :: ICMP 3 76 :: aLD 0 1 :: gR 11 10 35 1028 :: iLD 6 0 :: aLD 0 1 :: gR 11 9 31 1027 :: bPUSH 24 :: iLD 1 1 :: iMUL :: iLD 2 1 :: iADD :: iLD 6 0 :: iADD :: lALD :: lAST :: IINC 6 1 :: GOTO 57 :: am_ju 230 76 := rfl
set_option maxRecDepth 100000 in
theorem ju_230_76 : am_ju 230 76 = iCONST 0 :: iST 6 0 :: am_ju 230 78 := rfl
set_option maxRecDepth 100000 in
theorem ju_230_78 : am_ju 230 78 = iLD 6 0 :: iLD 5 0 :: ICMP 3 97 :: aLD 0 1 :: gR 11 9 31 1027 :: bPUSH 24 :: iLD 3 1 :: iMUL :: iLD 4 0 :: iADD :: iLD 6 0 :: iADD :: aLD 0 1 :: gR 11 10 35 1028 :: iLD 6 0 :: lALD :: lAST :: IINC 6 1 :: GOTO 78 :: am_ju 230 97 := rfl
set_option maxRecDepth 100000 in
theorem ju_230_97 : am_ju 230 97 = iLD 5 0 :: iRET :: [] := rfl
set_option maxRecDepth 100000 in
theorem ju_231_0 : am_ju 231 0 = NEW 10 7 73 :: DUP :: CALL 10 1 4 9 75 :: aST 1 1 :: NEW 11 10 1012 :: DUP :: CALL 11 1 4 12 1014 :: aST 2 1 :: iCONST 0 :: iST 3 1 :: am_ju 231 10 := rfl
set_option maxRecDepth 100000 in
theorem ju_231_10 : am_ju 231 10 = iLD 3 1 :: aLD 0 1 :: aLEN :: bPUSH 7 :: iSUB :: ICMP 4 893 :: aLD 0 1 :: iLD 3 1 :: iALD :: bPUSH 63 :: iAND :: TSW [0, 34, 891, 22, 39, 96, 123, 140, 167, 194, 231, 258, 295, 312, 319, 326, 343, 360, 367, 374, 381, 398, 415, 432, 449, 456, 473, 490, 507, 544, 581, 588, 595, 662, 709, 746, 763, 834] :: am_ju 231 22 := rfl
set_option maxRecDepth 100000 in
theorem ju_231_22 : am_ju 231 22 = aLD 1 1 :: aLD 0 1 :: iLD 3 1 :: iCONST 1 :: iADD :: iALD :: CALL 16 2 2 13 424 :: aLD 2 1 :: aLD 0 1 :: iLD 3 1 :: iCONST 1 :: iADD :: iALD :: CALL 20 2 2 17 1076 :: ICMP 0 891 :: iCONST 0 :: zRET :: am_ju 231 39 := rfl
set_option maxRecDepth 100000 in
theorem ju_231_39 : am_ju 231 39 = aLD 1 1 :: aLD 0 1 :: iLD 3 1 :: iCONST 1 :: iADD :: iALD :: aLD 0 1 :: iLD 3 1 :: iCONST 2 :: iADD :: iALD :: aLD 0 1 :: iLD 3 1 :: iCONST 3 :: iADD :: iALD :: aLD 0 1 :: iLD 3 1 :: iCONST 4 :: iADD :: iALD :: aLD 0 1 :: iLD 3 1 :: iCONST 5 :: iADD :: iALD :: CALL 24 6 2 18 444 :: aLD 2 1 :: aLD 0 1 :: iLD 3 1 :: iCONST 1 :: iADD :: iALD :: aLD 0 1 :: iLD 3 1 :: iCONST 2 :: iADD :: iALD :: aLD 0 1 :: iLD 3 1 :: iCONST 3 :: iADD :: iALD :: aLD 0 1 :: iLD 3 1 :: iCONST 4 :: iADD :: iALD :: aLD 0 1 :: iLD 3 1 :: iCONST 5 :: iADD :: iALD :: CALL 26 6 2 22 1089 :: ICMP 0 891 :: iCONST 0 :: zRET :: am_ju 231 96 := rfl
set_option maxRecDepth 100000 in
theorem ju_231_96 : am_ju 231 96 = aLD 1 1 :: aLD 0 1 :: iLD 3 1 :: iCONST 1 :: iADD :: iALD :: aLD 0 1 :: iLD 3 1 :: iCONST 2 :: iADD :: iALD :: CALL 31 3 2 23 460 :: aLD 2 1 :: aLD 0 1 :: iLD 3 1 :: iCONST 1 :: iADD :: iALD :: aLD 0 1 :: iLD 3 1 :: iCONST 2 :: iADD :: iALD :: CALL 36 3 2 27 1096 :: ICMP 0 891 :: iCONST 0 :: zRET :: am_ju 231 123 := rfl
set_option maxRecDepth 100000 in
theorem ju_231_123 : am_ju 231 123 = aLD 1 1 :: aLD 0 1 :: iLD 3 1 :: iCONST 1 :: iADD :: iALD :: CALL 37 2 2 28 480 :: aLD 2 1 :: aLD 0 1 :: iLD 3 1 :: iCONST 1 :: iADD :: iALD :: CALL 38 2 2 31 1115 :: ICMP 0 891 :: iCONST 0 :: zRET :: am_ju 231 140 := rfl
set_option maxRecDepth 100000 in
theorem ju_231_140 : am_ju 231 140 = aLD 1 1 :: aLD 0 1 :: iLD 3 1 :: iCONST 1 :: iADD :: iALD :: aLD 0 1 :: iLD 3 1 :: iCONST 2 :: iADD :: iALD :: CALL 44 3 2 32 484 :: aLD 2 1 :: aLD 0 1 :: iLD 3 1 :: iCONST 1 :: iADD :: iALD :: aLD 0 1 :: iLD 3 1 :: iCONST 2 :: iADD :: iALD :: CALL 48 3 2 35 1119 :: ICMP 0 891 :: iCONST 0 :: zRET :: am_ju 231 167 := rfl
set_option maxRecDepth 100000 in
theorem ju_231_167 : am_ju 231 167 = aLD 1 1 :: aLD 0 1 :: iLD 3 1 :: iCONST 1 :: iADD :: iALD :: aLD 0 1 :: iLD 3 1 :: iCONST 2 :: iADD :: iALD :: CALL 52 3 2 36 508 :: aLD 2 1 :: aLD 0 1 :: iLD 3 1 :: iCONST 1 :: iADD :: iALD :: aLD 0 1 :: iLD 3 1 :: iCONST 2 :: iADD :: iALD :: CALL 54 3 2 39 1132 :: ICMP 0 891 :: iCONST 0 :: zRET :: am_ju 231 194 := rfl
set_option maxRecDepth 100000 in
theorem ju_231_194 : am_ju 231 194 = aLD 1 1 :: aLD 0 1 :: iLD 3 1 :: iCONST 1 :: iADD :: iALD :: aLD 0 1 :: iLD 3 1 :: iCONST 2 :: iADD :: iALD :: aLD 0 1 :: iLD 3 1 :: iCONST 3 :: iADD :: iALD :: CALL 57 4 2 40 527 :: aLD 2 1 :: aLD 0 1 :: iLD 3 1 :: iCONST 1 :: iADD :: iALD :: aLD 0 1 :: iLD 3 1 :: iCONST 2 :: iADD :: iALD :: aLD 0 1 :: iLD 3 1 :: iCONST 3 :: iADD :: iALD :: CALL 59 4 2 44 1139 :: ICMP 0 891 :: iCONST 0 :: zRET :: am_ju 231 231 := rfl
set_option maxRecDepth 100000 in
theorem ju_231_231 : am_ju 231 231 = aLD 1 1 :: aLD 0 1 :: iLD 3 1 :: iCONST 1 :: iADD :: iALD :: aLD 0 1 :: iLD 3 1 :: iCONST 2 :: iADD :: iALD :: CALL 60 3 2 45 541 :: aLD 2 1 :: aLD 0 1 :: iLD 3 1 :: iCONST 1 :: iADD :: iALD :: aLD 0 1 :: iLD 3 1 :: iCONST 2 :: iADD :: iALD :: CALL 61 3 2 48 1146 :: ICMP 0 891 :: iCONST 0 :: zRET :: am_ju 231 258 := rfl
set_option maxRecDepth 100000 in
theorem ju_231_258 : am_ju 231 258 = aLD 1 1 :: aLD 0 1 :: iLD 3 1 :: iCONST 1 :: iADD :: iALD :: aLD 0 1 :: iLD 3 1 :: iCONST 2 :: iADD :: iALD :: aLD 0 1 :: iLD 3 1 :: iCONST 3 :: iADD :: iALD :: CALL 62 4 2 49 545 :: aLD 2 1 :: aLD 0 1 :: iLD 3 1 :: iCONST 1 :: iADD :: iALD :: aLD 0 1 :: iLD 3 1 :: iCONST 2 :: iADD :: iALD :: aLD 0 1 :: iLD 3 1 :: iCONST 3 :: iADD :: iALD :: CALL 63 4 2 52 1150 :: ICMP 0 891 :: iCONST 0 :: zRET :: am_ju 231 295 := rfl
set_option maxRecDepth 100000 in
theorem ju_231_295 : am_ju 231 295 = aLD 1 1 :: aLD 0 1 :: iLD 3 1 :: iCONST 1 :: iADD :: iALD :: CALL 65 2 2 53 549 :: aLD 2 1 :: aLD 0 1 :: iLD 3 1 :: iCONST 1 :: iADD :: iALD :: CALL 66 2 2 56 1154 :: ICMP 0 891 :: iCONST 0 :: zRET :: am_ju 231 312 := rfl
set_option maxRecDepth 100000 in
theorem ju_231_312 : am_ju 231 312 = aLD 1 1 :: CALL 74 1 2 57 557 :: aLD 2 1 :: CALL 78 1 2 61 1158 :: ICMP 0 891 :: iCONST 0 :: zRET :: am_ju 231 319 := rfl
set_option maxRecDepth 100000 in
theorem ju_231_319 : am_ju 231 319 = aLD 1 1 :: CALL 89 1 2 62 593 :: aLD 2 1 :: CALL 99 1 2 65 1173 :: ICMP 0 891 :: iCONST 0 :: zRET :: am_ju 231 326 := rfl
set_option maxRecDepth 100000 in
theorem ju_231_326 : am_ju 231 326 = aLD 1 1 :: aLD 0 1 :: iLD 3 1 :: iCONST 1 :: iADD :: iALD :: CALL 101 2 2 66 641 :: aLD 2 1 :: aLD 0 1 :: iLD 3 1 :: iCONST 1 :: iADD :: iALD :: CALL 102 2 2 69 1211 :: ICMP 0 891 :: iCONST 0 :: zRET :: am_ju 231 343 := rfl
set_option maxRecDepth 100000 in
theorem ju_231_343 : am_ju 231 343 = aLD 1 1 :: aLD 0 1 :: iLD 3 1 :: iCONST 1 :: iADD :: iALD :: CALL 105 2 2 70 649 :: aLD 2 1 :: aLD 0 1 :: iLD 3 1 :: iCONST 1 :: iADD :: iALD :: CALL 108 2 2 73 1215 :: ICMP 0 891 :: iCONST 0 :: zRET :: am_ju 231 360 := rfl
set_option maxRecDepth 100000 in
theorem ju_231_360 : am_ju 231 360 = aLD 1 1 :: CALL 119 1 2 74 663 :: aLD 2 1 :: CALL 126 1 2 77 1227 :: ICMP 0 891 :: iCONST 0 :: zRET :: am_ju 231 367 := rfl
set_option maxRecDepth 100000 in
theorem ju_231_367 : am_ju 231 367 = aLD 1 1 :: CALL 128 1 2 78 723 :: aLD 2 1 :: CALL 129 1 2 81 1255 :: ICMP 0 891 :: iCONST 0 :: zRET :: am_ju 231 374 := rfl
set_option maxRecDepth 100000 in
theorem ju_231_374 : am_ju 231 374 = aLD 1 1 :: CALL 130 1 2 82 731 :: aLD 2 1 :: CALL 131 1 2 85 1259 :: ICMP 0 891 :: iCONST 0 :: zRET :: am_ju 231 381 := rfl
set_option maxRecDepth 100000 in
theorem ju_231_381 : am_ju 231 381 = aLD 1 1 :: aLD 0 1 :: iLD 3 1 :: iCONST 1 :: iADD :: iALD :: CALL 132 2 2 86 735 :: aLD 2 1 :: aLD 0 1 :: iLD 3 1 :: iCONST 1 :: iADD :: iALD :: CALL 133 2 2 89 1263 :: ICMP 0 891 :: iCONST 0 :: zRET :: am_ju 231 398 := rfl
set_option maxRecDepth 100000 in
theorem ju_231_398 : am_ju 231 398 = aLD 1 1 :: aLD 0 1 :: iLD 3 1 :: iCONST 1 :: iADD :: iALD :: CALL 137 2 2 90 739 :: aLD 2 1 :: aLD 0 1 :: iLD 3 1 :: iCONST 1 :: iADD :: iALD :: CALL 140 2 2 93 1267 :: ICMP 0 891 :: iCONST 0 :: zRET :: am_ju 231 415 := rfl
set_option maxRecDepth 100000 in
theorem ju_231_415 : am_ju 231 415 = aLD 1 1 :: aLD 0 1 :: iLD 3 1 :: iCONST 1 :: iADD :: iALD :: CALL 144 2 2 94 759 :: aLD 2 1 :: aLD 0 1 :: iLD 3 1 :: iCONST 1 :: iADD :: iALD :: CALL 146 2 2 97 1279 :: ICMP 0 891 :: iCONST 0 :: zRET :: am_ju 231 432 := rfl
set_option maxRecDepth 100000 in
theorem ju_231_432 : am_ju 231 432 = aLD 1 1 :: aLD 0 1 :: iLD 3 1 :: iCONST 1 :: iADD :: iALD :: CALL 156 2 2 98 779 :: aLD 2 1 :: aLD 0 1 :: iLD 3 1 :: iCONST 1 :: iADD :: iALD :: CALL 160 2 2 101 1287 :: ICMP 0 891 :: iCONST 0 :: zRET :: am_ju 231 449 := rfl
set_option maxRecDepth 100000 in
theorem ju_231_449 : am_ju 231 449 = aLD 1 1 :: CALL 162 1 2 102 825 :: aLD 2 1 :: CALL 163 1 2 105 1302 :: ICMP 0 891 :: iCONST 0 :: zRET :: am_ju 231 456 := rfl
set_option maxRecDepth 100000 in
theorem ju_231_456 : am_ju 231 456 = aLD 1 1 :: aLD 0 1 :: iLD 3 1 :: iCONST 1 :: iADD :: iALD :: CALL 167 2 2 106 834 :: aLD 2 1 :: aLD 0 1 :: iLD 3 1 :: iCONST 1 :: iADD :: iALD :: CALL 170 2 2 109 1306 :: ICMP 0 891 :: iCONST 0 :: zRET :: am_ju 231 473 := rfl
set_option maxRecDepth 100000 in
theorem ju_231_473 : am_ju 231 473 = aLD 1 1 :: aLD 0 1 :: iLD 3 1 :: iCONST 1 :: iADD :: iALD :: CALL 174 2 2 110 853 :: aLD 2 1 :: aLD 0 1 :: iLD 3 1 :: iCONST 1 :: iADD :: iALD :: CALL 177 2 2 113 1318 :: ICMP 0 891 :: iCONST 0 :: zRET :: am_ju 231 490 := rfl
set_option maxRecDepth 100000 in
theorem ju_231_490 : am_ju 231 490 = aLD 1 1 :: aLD 0 1 :: iLD 3 1 :: iCONST 1 :: iADD :: iALD :: CALL 185 2 2 114 871 :: aLD 2 1 :: aLD 0 1 :: iLD 3 1 :: iCONST 1 :: iADD :: iALD :: CALL 188 2 2 117 1330 :: ICMP 0 891 :: iCONST 0 :: zRET :: am_ju 231 507 := rfl
set_option maxRecDepth 100000 in
theorem ju_231_507 : am_ju 231 507 = aLD 1 1 :: aLD 0 1 :: iLD 3 1 :: iCONST 1 :: iADD :: iALD :: aLD 0 1 :: iLD 3 1 :: iCONST 2 :: iADD :: iALD :: aLD 0 1 :: iLD 3 1 :: iCONST 3 :: iADD :: iALD :: CALL 190 4 2 118 907 :: aLD 2 1 :: aLD 0 1 :: iLD 3 1 :: iCONST 1 :: iADD :: iALD :: aLD 0 1 :: iLD 3 1 :: iCONST 2 :: iADD :: iALD :: aLD 0 1 :: iLD 3 1 :: iCONST 3 :: iADD :: iALD :: CALL 192 4 2 121 1342 :: ICMP 0 891 :: iCONST 0 :: zRET :: am_ju 231 544 := rfl
set_option maxRecDepth 100000 in
theorem ju_231_544 : am_ju 231 544 = aLD 1 1 :: aLD 0 1 :: iLD 3 1 :: iCONST 1 :: iADD :: iALD :: aLD 0 1 :: iLD 3 1 :: iCONST 2 :: iADD :: iALD :: aLD 0 1 :: iLD 3 1 :: iCONST 3 :: iADD :: iALD :: CALL 195 4 2 122 916 :: aLD 2 1 :: aLD 0 1 :: iLD 3 1 :: iCONST 1 :: iADD :: iALD :: aLD 0 1 :: iLD 3 1 :: iCONST 2 :: iADD :: iALD :: aLD 0 1 :: iLD 3 1 :: iCONST 3 :: iADD :: iALD :: CALL 197 4 2 125 1350 :: ICMP 0 891 :: iCONST 0 :: zRET :: am_ju 231 581 := rfl
set_option maxRecDepth 100000 in
theorem ju_231_581 : am_ju 231 581 = aLD 1 1 :: CALL 200 1 2 126 929 :: aLD 2 1 :: CALL 201 1 2 129 1358 :: ICMP 0 891 :: iCONST 0 :: zRET :: am_ju 231 588 := rfl
set_option maxRecDepth 100000 in
theorem ju_231_588 : am_ju 231 588 = aLD 1 1 :: CALL 202 1 2 130 942 :: aLD 2 1 :: CALL 203 1 2 133 1362 :: ICMP 0 891 :: iCONST 0 :: zRET :: am_ju 231 595 := rfl
set_option maxRecDepth 100000 in
theorem ju_231_595 : am_ju 231 595 = aLD 1 1 :: aLD 0 1 :: iLD 3 1 :: iCONST 1 :: iADD :: iALD :: aLD 0 1 :: iLD 3 1 :: iCONST 2 :: iADD :: iALD :: aLD 0 1 :: iLD 3 1 :: iCONST 3 :: iADD :: iALD :: aLD 0 1 :: iLD 3 1 :: iCONST 4 :: iADD :: iALD :: aLD 0 1 :: iLD 3 1 :: iCONST 5 :: iADD :: iALD :: aLD 0 1 :: iLD 3 1 :: bPUSH 6 :: iADD :: iALD :: CALL 209 7 2 134 946 :: aLD 2 1 :: aLD 0 1 :: iLD 3 1 :: iCONST 1 :: iADD :: iALD :: aLD 0 1 :: iLD 3 1 :: iCONST 2 :: iADD :: iALD :: aLD 0 1 :: iLD 3 1 :: iCONST 3 :: iADD :: iALD :: aLD 0 1 :: iLD 3 1 :: iCONST 4 :: iADD :: iALD :: aLD 0 1 :: iLD 3 1 :: iCONST 5 :: iADD :: iALD :: aLD 0 1 :: iLD 3 1 :: bPUSH 6 :: iADD :: iALD :: CALL 214 7 2 138 1366 :: ICMP 0 891 :: iCONST 0 :: zRET :: am_ju 231 662 := rfl
set_option maxRecDepth 100000 in
theorem ju_231_662 : am_ju 231 662 = aLD 1 1 :: aLD 0 1 :: iLD 3 1 :: iCONST 1 :: iADD :: iALD :: aLD 0 1 :: iLD 3 1 :: iCONST 2 :: iADD :: iALD :: aLD 0 1 :: iLD 3 1 :: iCONST 3 :: iADD :: iALD :: aLD 0 1 :: iLD 3 1 :: iCONST 4 :: iADD :: iALD :: CALL 218 5 2 139 971 :: aLD 2 1 :: aLD 0 1 :: iLD 3 1 :: iCONST 1 :: iADD :: iALD :: aLD 0 1 :: iLD 3 1 :: iCONST 2 :: iADD :: iALD :: aLD 0 1 :: iLD 3 1 :: iCONST 3 :: iADD :: iALD :: aLD 0 1 :: iLD 3 1 :: iCONST 4 :: iADD :: iALD :: CALL 220 5 2 143 1384 :: ICMP 0 891 :: iCONST 0 :: zRET :: am_ju 231 709 := rfl
set_option maxRecDepth 100000 in
theorem ju_231_709 : am_ju 231 709 = aLD 1 1 :: aLD 0 1 :: iLD 3 1 :: iCONST 1 :: iADD :: iALD :: aLD 0 1 :: iLD 3 1 :: iCONST 2 :: iADD :: iALD :: aLD 0 1 :: iLD 3 1 :: iCONST 3 :: iADD :: iALD :: CALL 223 4 2 144 987 :: aLD 2 1 :: aLD 0 1 :: iLD 3 1 :: iCONST 1 :: iADD :: iALD :: aLD 0 1 :: iLD 3 1 :: iCONST 2 :: iADD :: iALD :: aLD 0 1 :: iLD 3 1 :: iCONST 3 :: iADD :: iALD :: CALL 224 4 2 147 1391 :: ICMP 0 891 :: iCONST 0 :: zRET :: am_ju 231 746 := rfl
set_option maxRecDepth 100000 in
theorem ju_231_746 : am_ju 231 746 = aLD 1 1 :: aLD 0 1 :: iLD 3 1 :: iCONST 1 :: iADD :: iALD :: CALL 225 2 2 148 999 :: aLD 2 1 :: aLD 0 1 :: iLD 3 1 :: iCONST 1 :: iADD :: iALD :: CALL 226 2 2 151 1395 :: ICMP 0 891 :: iCONST 0 :: zRET :: am_ju 231 763 := rfl
set_option maxRecDepth 100000 in
theorem ju_231_763 : am_ju 231 763 = aLD 1 1 :: aLD 0 1 :: iLD 3 1 :: iCONST 1 :: iADD :: iALD :: aLD 0 1 :: iLD 3 1 :: iCONST 2 :: iADD :: iALD :: aLD 0 1 :: iLD 3 1 :: iCONST 3 :: iADD :: iALD :: aLD 0 1 :: iLD 3 1 :: iCONST 4 :: iADD :: iALD :: ITL :: bPUSH 32 :: lSHL :: aLD 0 1 :: iLD 3 1 :: iCONST 5 :: iADD :: iALD :: ITL :: LDC2 4294967295 152 1407 :: lAND :: lOR :: CALL 227 5 2 154 1003 :: aLD 2 1 :: aLD 0 1 :: iLD 3 1 :: iCONST 1 :: iADD :: iALD :: aLD 0 1 :: iLD 3 1 :: iCONST 2 :: iADD :: iALD :: aLD 0 1 :: iLD 3 1 :: iCONST 3 :: iADD :: iALD :: aLD 0 1 :: iLD 3 1 :: iCONST 4 :: iADD :: iALD :: ITL :: bPUSH 32 :: lSHL :: aLD 0 1 :: iLD 3 1 :: iCONST 5 :: iADD :: iALD :: ITL :: LDC2 4294967295 152 1407 :: lAND :: lOR :: CALL 228 5 2 158 1399 :: ICMP 0 891 :: iCONST 0 :: zRET :: am_ju 231 834 := rfl
set_option maxRecDepth 100000 in
theorem ju_231_834 : am_ju 231 834 = aLD 1 1 :: aLD 0 1 :: iLD 3 1 :: iCONST 1 :: iADD :: iALD :: aLD 0 1 :: iLD 3 1 :: iCONST 2 :: iADD :: iALD :: aLD 0 1 :: iLD 3 1 :: iCONST 3 :: iADD :: iALD :: aLD 0 1 :: iLD 3 1 :: iCONST 4 :: iADD :: iALD :: aLD 0 1 :: iLD 3 1 :: iCONST 5 :: iADD :: iALD :: CALL 229 6 2 159 1007 :: aLD 2 1 :: aLD 0 1 :: iLD 3 1 :: iCONST 1 :: iADD :: iALD :: aLD 0 1 :: iLD 3 1 :: iCONST 2 :: iADD :: iALD :: aLD 0 1 :: iLD 3 1 :: iCONST 3 :: iADD :: iALD :: aLD 0 1 :: iLD 3 1 :: iCONST 4 :: iADD :: iALD :: aLD 0 1 :: iLD 3 1 :: iCONST 5 :: iADD :: iALD :: CALL 230 6 2 162 1403 :: ICMP 0 891 :: iCONST 0 :: zRET :: am_ju 231 891 := rfl
set_option maxRecDepth 100000 in
theorem ju_231_891 : am_ju 231 891 = IINC 3 7 :: GOTO 10 :: am_ju 231 893 := rfl
set_option maxRecDepth 100000 in
theorem ju_231_893 : am_ju 231 893 = iCONST 1 :: zRET :: [] := rfl
