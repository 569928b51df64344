/-! THE LAW'S dispatcher, out of its code (written by gen/call31.py). -/
noncomputable section
def k_L_call (pc : Nat) : Ent := bif Nat.ble 394 pc then am_nop else bif Nat.ble 197 pc then (bif Nat.ble 297 pc then (bif Nat.ble 346 pc then (bif Nat.ble 373 pc then (bif Nat.ble 383 pc then (bif Nat.ble 388 pc then (bif Nat.ble 391 pc then (bif Nat.ble 393 pc then (bif Nat.beq pc 393 then (.ireturn, 0, 0, []) else am_nop) else (bif Nat.beq pc 391 then (.bipush (-13), (-13 : Int32), 0, []) else am_nop)) else (bif Nat.ble 389 pc then (bif Nat.beq pc 389 then (.astore 9, 0, 9, []) else am_nop) else (bif Nat.beq pc 388 then (.ireturn, 0, 0, []) else am_nop))) else (bif Nat.ble 384 pc then (bif Nat.ble 386 pc then (bif Nat.beq pc 386 then (.bipush (-12), (-12 : Int32), 0, []) else am_nop) else (bif Nat.beq pc 384 then (.astore 9, 0, 9, []) else am_nop)) else (bif Nat.beq pc 383 then (.ireturn, 0, 0, []) else am_nop))) else (bif Nat.ble 378 pc then (bif Nat.ble 379 pc then (bif Nat.ble 381 pc then (bif Nat.beq pc 381 then (.bipush (-11), (-11 : Int32), 0, []) else am_nop) else (bif Nat.beq pc 379 then (.astore 9, 0, 9, []) else am_nop)) else (bif Nat.beq pc 378 then (.ireturn, 0, 0, []) else am_nop)) else (bif Nat.ble 374 pc then (bif Nat.ble 375 pc then (bif Nat.beq pc 375 then (.invokevirtual 93, 0, 0, []) else am_nop) else (bif Nat.beq pc 374 then (.iload_n 2, 0, 2, []) else am_nop)) else (bif Nat.beq pc 373 then (.aload_n 0, 0, 0, []) else am_nop)))) else (bif Nat.ble 359 pc then (bif Nat.ble 365 pc then (bif Nat.ble 367 pc then (bif Nat.ble 370 pc then (bif Nat.beq pc 370 then (.goto 8, 0, 378, []) else am_nop) else (bif Nat.beq pc 367 then (.invokevirtual 90, 0, 0, []) else am_nop)) else (bif Nat.ble 366 pc then (bif Nat.beq pc 366 then (.iload_n 3, 0, 3, []) else am_nop) else (bif Nat.beq pc 365 then (.iload_n 2, 0, 2, []) else am_nop))) else (bif Nat.ble 361 pc then (bif Nat.ble 364 pc then (bif Nat.beq pc 364 then (.aload_n 0, 0, 0, []) else am_nop) else (bif Nat.beq pc 361 then (.if_icmp .ne 12, 0, 373, []) else am_nop)) else (bif Nat.beq pc 359 then (.bipush 22, 22, 0, []) else am_nop))) else (bif Nat.ble 352 pc then (bif Nat.ble 355 pc then (bif Nat.ble 358 pc then (bif Nat.beq pc 358 then (.iload_n 1, 0, 1, []) else am_nop) else (bif Nat.beq pc 355 then (.goto 23, 0, 378, []) else am_nop)) else (bif Nat.beq pc 352 then (.invokevirtual 87, 0, 0, []) else am_nop)) else (bif Nat.ble 348 pc then (bif Nat.ble 350 pc then (bif Nat.beq pc 350 then (.iload 8, 0, 8, []) else am_nop) else (bif Nat.beq pc 348 then (.iload 7, 0, 7, []) else am_nop)) else (bif Nat.beq pc 346 then (.iload 6, 0, 6, []) else am_nop))))) else (bif Nat.ble 323 pc then (bif Nat.ble 334 pc then (bif Nat.ble 340 pc then (bif Nat.ble 344 pc then (bif Nat.ble 345 pc then (bif Nat.beq pc 345 then (.iload_n 3, 0, 3, []) else am_nop) else (bif Nat.beq pc 344 then (.iload_n 2, 0, 2, []) else am_nop)) else (bif Nat.ble 343 pc then (bif Nat.beq pc 343 then (.aload_n 0, 0, 0, []) else am_nop) else (bif Nat.beq pc 340 then (.if_icmp .ne 18, 0, 358, []) else am_nop))) else (bif Nat.ble 337 pc then (bif Nat.ble 338 pc then (bif Nat.beq pc 338 then (.bipush 21, 21, 0, []) else am_nop) else (bif Nat.beq pc 337 then (.iload_n 1, 0, 1, []) else am_nop)) else (bif Nat.beq pc 334 then (.goto 44, 0, 378, []) else am_nop))) else (bif Nat.ble 329 pc then (bif Nat.ble 330 pc then (bif Nat.ble 331 pc then (bif Nat.beq pc 331 then (.invokevirtual 84, 0, 0, []) else am_nop) else (bif Nat.beq pc 330 then (.iload_n 3, 0, 3, []) else am_nop)) else (bif Nat.beq pc 329 then (.iload_n 2, 0, 2, []) else am_nop)) else (bif Nat.ble 325 pc then (bif Nat.ble 328 pc then (bif Nat.beq pc 328 then (.aload_n 0, 0, 0, []) else am_nop) else (bif Nat.beq pc 325 then (.if_icmp .ne 12, 0, 337, []) else am_nop)) else (bif Nat.beq pc 323 then (.bipush 20, 20, 0, []) else am_nop)))) else (bif Nat.ble 309 pc then (bif Nat.ble 315 pc then (bif Nat.ble 319 pc then (bif Nat.ble 322 pc then (bif Nat.beq pc 322 then (.iload_n 1, 0, 1, []) else am_nop) else (bif Nat.beq pc 319 then (.goto 59, 0, 378, []) else am_nop)) else (bif Nat.ble 316 pc then (bif Nat.beq pc 316 then (.invokevirtual 81, 0, 0, []) else am_nop) else (bif Nat.beq pc 315 then (.iload_n 2, 0, 2, []) else am_nop))) else (bif Nat.ble 311 pc then (bif Nat.ble 314 pc then (bif Nat.beq pc 314 then (.aload_n 0, 0, 0, []) else am_nop) else (bif Nat.beq pc 311 then (.if_icmp .ne 11, 0, 322, []) else am_nop)) else (bif Nat.beq pc 309 then (.bipush 19, 19, 0, []) else am_nop))) else (bif Nat.ble 302 pc then (bif Nat.ble 305 pc then (bif Nat.ble 308 pc then (bif Nat.beq pc 308 then (.iload_n 1, 0, 1, []) else am_nop) else (bif Nat.beq pc 305 then (.goto 73, 0, 378, []) else am_nop)) else (bif Nat.beq pc 302 then (.invokevirtual 78, 0, 0, []) else am_nop)) else (bif Nat.ble 300 pc then (bif Nat.ble 301 pc then (bif Nat.beq pc 301 then (.iload_n 2, 0, 2, []) else am_nop) else (bif Nat.beq pc 300 then (.aload_n 0, 0, 0, []) else am_nop)) else (bif Nat.beq pc 297 then (.if_icmp .ne 11, 0, 308, []) else am_nop)))))) else (bif Nat.ble 248 pc then (bif Nat.ble 271 pc then (bif Nat.ble 284 pc then (bif Nat.ble 288 pc then (bif Nat.ble 294 pc then (bif Nat.ble 295 pc then (bif Nat.beq pc 295 then (.bipush 18, 18, 0, []) else am_nop) else (bif Nat.beq pc 294 then (.iload_n 1, 0, 1, []) else am_nop)) else (bif Nat.ble 291 pc then (bif Nat.beq pc 291 then (.goto 87, 0, 378, []) else am_nop) else (bif Nat.beq pc 288 then (.invokevirtual 74, 0, 0, []) else am_nop))) else (bif Nat.ble 285 pc then (bif Nat.ble 286 pc then (bif Nat.beq pc 286 then (.iload 8, 0, 8, []) else am_nop) else (bif Nat.beq pc 285 then (.iload_n 3, 0, 3, []) else am_nop)) else (bif Nat.beq pc 284 then (.iload_n 2, 0, 2, []) else am_nop))) else (bif Nat.ble 278 pc then (bif Nat.ble 280 pc then (bif Nat.ble 283 pc then (bif Nat.beq pc 283 then (.aload_n 0, 0, 0, []) else am_nop) else (bif Nat.beq pc 280 then (.if_icmp .ne 14, 0, 294, []) else am_nop)) else (bif Nat.beq pc 278 then (.bipush 17, 17, 0, []) else am_nop)) else (bif Nat.ble 274 pc then (bif Nat.ble 277 pc then (bif Nat.beq pc 277 then (.iload_n 1, 0, 1, []) else am_nop) else (bif Nat.beq pc 274 then (.goto 104, 0, 378, []) else am_nop)) else (bif Nat.beq pc 271 then (.invokevirtual 71, 0, 0, []) else am_nop)))) else (bif Nat.ble 259 pc then (bif Nat.ble 265 pc then (bif Nat.ble 269 pc then (bif Nat.ble 270 pc then (bif Nat.beq pc 270 then (.iload_n 3, 0, 3, []) else am_nop) else (bif Nat.beq pc 269 then (.iload_n 2, 0, 2, []) else am_nop)) else (bif Nat.ble 268 pc then (bif Nat.beq pc 268 then (.aload_n 0, 0, 0, []) else am_nop) else (bif Nat.beq pc 265 then (.if_icmp .ne 12, 0, 277, []) else am_nop))) else (bif Nat.ble 262 pc then (bif Nat.ble 263 pc then (bif Nat.beq pc 263 then (.bipush 16, 16, 0, []) else am_nop) else (bif Nat.beq pc 262 then (.iload_n 1, 0, 1, []) else am_nop)) else (bif Nat.beq pc 259 then (.goto 119, 0, 378, []) else am_nop))) else (bif Nat.ble 254 pc then (bif Nat.ble 255 pc then (bif Nat.ble 256 pc then (bif Nat.beq pc 256 then (.invokevirtual 68, 0, 0, []) else am_nop) else (bif Nat.beq pc 255 then (.iload_n 3, 0, 3, []) else am_nop)) else (bif Nat.beq pc 254 then (.iload_n 2, 0, 2, []) else am_nop)) else (bif Nat.ble 250 pc then (bif Nat.ble 253 pc then (bif Nat.beq pc 253 then (.aload_n 0, 0, 0, []) else am_nop) else (bif Nat.beq pc 250 then (.if_icmp .ne 12, 0, 262, []) else am_nop)) else (bif Nat.beq pc 248 then (.bipush 15, 15, 0, []) else am_nop))))) else (bif Nat.ble 222 pc then (bif Nat.ble 235 pc then (bif Nat.ble 240 pc then (bif Nat.ble 244 pc then (bif Nat.ble 247 pc then (bif Nat.beq pc 247 then (.iload_n 1, 0, 1, []) else am_nop) else (bif Nat.beq pc 244 then (.goto 134, 0, 378, []) else am_nop)) else (bif Nat.ble 241 pc then (bif Nat.beq pc 241 then (.invokevirtual 65, 0, 0, []) else am_nop) else (bif Nat.beq pc 240 then (.iload_n 3, 0, 3, []) else am_nop))) else (bif Nat.ble 238 pc then (bif Nat.ble 239 pc then (bif Nat.beq pc 239 then (.iload_n 2, 0, 2, []) else am_nop) else (bif Nat.beq pc 238 then (.aload_n 0, 0, 0, []) else am_nop)) else (bif Nat.beq pc 235 then (.if_icmp .ne 12, 0, 247, []) else am_nop))) else (bif Nat.ble 229 pc then (bif Nat.ble 232 pc then (bif Nat.ble 233 pc then (bif Nat.beq pc 233 then (.bipush 14, 14, 0, []) else am_nop) else (bif Nat.beq pc 232 then (.iload_n 1, 0, 1, []) else am_nop)) else (bif Nat.beq pc 229 then (.goto 149, 0, 378, []) else am_nop)) else (bif Nat.ble 225 pc then (bif Nat.ble 226 pc then (bif Nat.beq pc 226 then (.invokevirtual 62, 0, 0, []) else am_nop) else (bif Nat.beq pc 225 then (.aload_n 0, 0, 0, []) else am_nop)) else (bif Nat.beq pc 222 then (.if_icmp .ne 10, 0, 232, []) else am_nop)))) else (bif Nat.ble 208 pc then (bif Nat.ble 213 pc then (bif Nat.ble 219 pc then (bif Nat.ble 220 pc then (bif Nat.beq pc 220 then (.bipush 13, 13, 0, []) else am_nop) else (bif Nat.beq pc 219 then (.iload_n 1, 0, 1, []) else am_nop)) else (bif Nat.ble 216 pc then (bif Nat.beq pc 216 then (.goto 162, 0, 378, []) else am_nop) else (bif Nat.beq pc 213 then (.invokevirtual 59, 0, 0, []) else am_nop))) else (bif Nat.ble 211 pc then (bif Nat.ble 212 pc then (bif Nat.beq pc 212 then (.iload_n 2, 0, 2, []) else am_nop) else (bif Nat.beq pc 211 then (.aload_n 0, 0, 0, []) else am_nop)) else (bif Nat.beq pc 208 then (.if_icmp .ne 11, 0, 219, []) else am_nop))) else (bif Nat.ble 202 pc then (bif Nat.ble 205 pc then (bif Nat.ble 206 pc then (bif Nat.beq pc 206 then (.bipush 12, 12, 0, []) else am_nop) else (bif Nat.beq pc 205 then (.iload_n 1, 0, 1, []) else am_nop)) else (bif Nat.beq pc 202 then (.goto 176, 0, 378, []) else am_nop)) else (bif Nat.ble 198 pc then (bif Nat.ble 199 pc then (bif Nat.beq pc 199 then (.invokevirtual 56, 0, 0, []) else am_nop) else (bif Nat.beq pc 198 then (.iload_n 2, 0, 2, []) else am_nop)) else (bif Nat.beq pc 197 then (.aload_n 0, 0, 0, []) else am_nop))))))) else (bif Nat.ble 95 pc then (bif Nat.ble 143 pc then (bif Nat.ble 170 pc then (bif Nat.ble 181 pc then (bif Nat.ble 188 pc then (bif Nat.ble 192 pc then (bif Nat.ble 194 pc then (bif Nat.beq pc 194 then (.if_icmp .ne 11, 0, 205, []) else am_nop) else (bif Nat.beq pc 192 then (.bipush 11, 11, 0, []) else am_nop)) else (bif Nat.ble 191 pc then (bif Nat.beq pc 191 then (.iload_n 1, 0, 1, []) else am_nop) else (bif Nat.beq pc 188 then (.goto 190, 0, 378, []) else am_nop))) else (bif Nat.ble 184 pc then (bif Nat.ble 185 pc then (bif Nat.beq pc 185 then (.invokevirtual 53, 0, 0, []) else am_nop) else (bif Nat.beq pc 184 then (.aload_n 0, 0, 0, []) else am_nop)) else (bif Nat.beq pc 181 then (.if_icmp .ne 10, 0, 191, []) else am_nop))) else (bif Nat.ble 175 pc then (bif Nat.ble 178 pc then (bif Nat.ble 179 pc then (bif Nat.beq pc 179 then (.bipush 10, 10, 0, []) else am_nop) else (bif Nat.beq pc 178 then (.iload_n 1, 0, 1, []) else am_nop)) else (bif Nat.beq pc 175 then (.goto 203, 0, 378, []) else am_nop)) else (bif Nat.ble 171 pc then (bif Nat.ble 172 pc then (bif Nat.beq pc 172 then (.invokevirtual 50, 0, 0, []) else am_nop) else (bif Nat.beq pc 171 then (.iload_n 2, 0, 2, []) else am_nop)) else (bif Nat.beq pc 170 then (.aload_n 0, 0, 0, []) else am_nop)))) else (bif Nat.ble 156 pc then (bif Nat.ble 161 pc then (bif Nat.ble 165 pc then (bif Nat.ble 167 pc then (bif Nat.beq pc 167 then (.if_icmp .ne 11, 0, 178, []) else am_nop) else (bif Nat.beq pc 165 then (.bipush 9, 9, 0, []) else am_nop)) else (bif Nat.ble 164 pc then (bif Nat.beq pc 164 then (.iload_n 1, 0, 1, []) else am_nop) else (bif Nat.beq pc 161 then (.goto 217, 0, 378, []) else am_nop))) else (bif Nat.ble 157 pc then (bif Nat.ble 158 pc then (bif Nat.beq pc 158 then (.invokevirtual 47, 0, 0, []) else am_nop) else (bif Nat.beq pc 157 then (.iload_n 2, 0, 2, []) else am_nop)) else (bif Nat.beq pc 156 then (.aload_n 0, 0, 0, []) else am_nop))) else (bif Nat.ble 150 pc then (bif Nat.ble 151 pc then (bif Nat.ble 153 pc then (bif Nat.beq pc 153 then (.if_icmp .ne 11, 0, 164, []) else am_nop) else (bif Nat.beq pc 151 then (.bipush 8, 8, 0, []) else am_nop)) else (bif Nat.beq pc 150 then (.iload_n 1, 0, 1, []) else am_nop)) else (bif Nat.ble 144 pc then (bif Nat.ble 147 pc then (bif Nat.beq pc 147 then (.goto 231, 0, 378, []) else am_nop) else (bif Nat.beq pc 144 then (.invokevirtual 43, 0, 0, []) else am_nop)) else (bif Nat.beq pc 143 then (.aload_n 0, 0, 0, []) else am_nop))))) else (bif Nat.ble 116 pc then (bif Nat.ble 129 pc then (bif Nat.ble 134 pc then (bif Nat.ble 138 pc then (bif Nat.ble 140 pc then (bif Nat.beq pc 140 then (.if_icmp .ne 10, 0, 150, []) else am_nop) else (bif Nat.beq pc 138 then (.bipush 7, 7, 0, []) else am_nop)) else (bif Nat.ble 137 pc then (bif Nat.beq pc 137 then (.iload_n 1, 0, 1, []) else am_nop) else (bif Nat.beq pc 134 then (.goto 244, 0, 378, []) else am_nop))) else (bif Nat.ble 130 pc then (bif Nat.ble 131 pc then (bif Nat.beq pc 131 then (.invokevirtual 40, 0, 0, []) else am_nop) else (bif Nat.beq pc 130 then (.iload_n 2, 0, 2, []) else am_nop)) else (bif Nat.beq pc 129 then (.aload_n 0, 0, 0, []) else am_nop))) else (bif Nat.ble 123 pc then (bif Nat.ble 124 pc then (bif Nat.ble 126 pc then (bif Nat.beq pc 126 then (.if_icmp .ne 11, 0, 137, []) else am_nop) else (bif Nat.beq pc 124 then (.bipush 6, 6, 0, []) else am_nop)) else (bif Nat.beq pc 123 then (.iload_n 1, 0, 1, []) else am_nop)) else (bif Nat.ble 117 pc then (bif Nat.ble 120 pc then (bif Nat.beq pc 120 then (.goto 258, 0, 378, []) else am_nop) else (bif Nat.beq pc 117 then (.invokevirtual 37, 0, 0, []) else am_nop)) else (bif Nat.beq pc 116 then (.iload_n 3, 0, 3, []) else am_nop)))) else (bif Nat.ble 103 pc then (bif Nat.ble 110 pc then (bif Nat.ble 114 pc then (bif Nat.ble 115 pc then (bif Nat.beq pc 115 then (.iload_n 2, 0, 2, []) else am_nop) else (bif Nat.beq pc 114 then (.aload_n 0, 0, 0, []) else am_nop)) else (bif Nat.ble 111 pc then (bif Nat.beq pc 111 then (.if_icmp .ne 12, 0, 123, []) else am_nop) else (bif Nat.beq pc 110 then (.iconst 5, 5, 0, []) else am_nop))) else (bif Nat.ble 106 pc then (bif Nat.ble 109 pc then (bif Nat.beq pc 109 then (.iload_n 1, 0, 1, []) else am_nop) else (bif Nat.beq pc 106 then (.goto 272, 0, 378, []) else am_nop)) else (bif Nat.beq pc 103 then (.invokevirtual 34, 0, 0, []) else am_nop))) else (bif Nat.ble 100 pc then (bif Nat.ble 101 pc then (bif Nat.ble 102 pc then (bif Nat.beq pc 102 then (.iload_n 3, 0, 3, []) else am_nop) else (bif Nat.beq pc 101 then (.iload_n 2, 0, 2, []) else am_nop)) else (bif Nat.beq pc 100 then (.aload_n 0, 0, 0, []) else am_nop)) else (bif Nat.ble 96 pc then (bif Nat.ble 97 pc then (bif Nat.beq pc 97 then (.if_icmp .ne 12, 0, 109, []) else am_nop) else (bif Nat.beq pc 96 then (.iconst 4, 4, 0, []) else am_nop)) else (bif Nat.beq pc 95 then (.iload_n 1, 0, 1, []) else am_nop)))))) else (bif Nat.ble 48 pc then (bif Nat.ble 69 pc then (bif Nat.ble 82 pc then (bif Nat.ble 87 pc then (bif Nat.ble 89 pc then (bif Nat.ble 92 pc then (bif Nat.beq pc 92 then (.goto 286, 0, 378, []) else am_nop) else (bif Nat.beq pc 89 then (.invokevirtual 31, 0, 0, []) else am_nop)) else (bif Nat.ble 88 pc then (bif Nat.beq pc 88 then (.iload_n 3, 0, 3, []) else am_nop) else (bif Nat.beq pc 87 then (.iload_n 2, 0, 2, []) else am_nop))) else (bif Nat.ble 83 pc then (bif Nat.ble 86 pc then (bif Nat.beq pc 86 then (.aload_n 0, 0, 0, []) else am_nop) else (bif Nat.beq pc 83 then (.if_icmp .ne 12, 0, 95, []) else am_nop)) else (bif Nat.beq pc 82 then (.iconst 3, 3, 0, []) else am_nop))) else (bif Nat.ble 75 pc then (bif Nat.ble 78 pc then (bif Nat.ble 81 pc then (bif Nat.beq pc 81 then (.iload_n 1, 0, 1, []) else am_nop) else (bif Nat.beq pc 78 then (.goto 300, 0, 378, []) else am_nop)) else (bif Nat.beq pc 75 then (.invokevirtual 27, 0, 0, []) else am_nop)) else (bif Nat.ble 71 pc then (bif Nat.ble 73 pc then (bif Nat.beq pc 73 then (.iload 8, 0, 8, []) else am_nop) else (bif Nat.beq pc 71 then (.iload 7, 0, 7, []) else am_nop)) else (bif Nat.beq pc 69 then (.iload 6, 0, 6, []) else am_nop)))) else (bif Nat.ble 58 pc then (bif Nat.ble 63 pc then (bif Nat.ble 67 pc then (bif Nat.ble 68 pc then (bif Nat.beq pc 68 then (.iload_n 3, 0, 3, []) else am_nop) else (bif Nat.beq pc 67 then (.iload_n 2, 0, 2, []) else am_nop)) else (bif Nat.ble 66 pc then (bif Nat.beq pc 66 then (.aload_n 0, 0, 0, []) else am_nop) else (bif Nat.beq pc 63 then (.if_icmp .ne 18, 0, 81, []) else am_nop))) else (bif Nat.ble 61 pc then (bif Nat.ble 62 pc then (bif Nat.beq pc 62 then (.iconst 2, 2, 0, []) else am_nop) else (bif Nat.beq pc 61 then (.iload_n 1, 0, 1, []) else am_nop)) else (bif Nat.beq pc 58 then (.goto 320, 0, 378, []) else am_nop))) else (bif Nat.ble 53 pc then (bif Nat.ble 54 pc then (bif Nat.ble 55 pc then (bif Nat.beq pc 55 then (.invokevirtual 23, 0, 0, []) else am_nop) else (bif Nat.beq pc 54 then (.iload_n 2, 0, 2, []) else am_nop)) else (bif Nat.beq pc 53 then (.aload_n 0, 0, 0, []) else am_nop)) else (bif Nat.ble 49 pc then (bif Nat.ble 50 pc then (bif Nat.beq pc 50 then (.if_icmp .ne 11, 0, 61, []) else am_nop) else (bif Nat.beq pc 49 then (.iconst 1, 1, 0, []) else am_nop)) else (bif Nat.beq pc 48 then (.iload_n 1, 0, 1, []) else am_nop))))) else (bif Nat.ble 24 pc then (bif Nat.ble 35 pc then (bif Nat.ble 40 pc then (bif Nat.ble 42 pc then (bif Nat.ble 45 pc then (bif Nat.beq pc 45 then (.goto 333, 0, 378, []) else am_nop) else (bif Nat.beq pc 42 then (.invokevirtual 17, 0, 0, []) else am_nop)) else (bif Nat.ble 41 pc then (bif Nat.beq pc 41 then (.iload_n 3, 0, 3, []) else am_nop) else (bif Nat.beq pc 40 then (.iload_n 2, 0, 2, []) else am_nop))) else (bif Nat.ble 36 pc then (bif Nat.ble 39 pc then (bif Nat.beq pc 39 then (.aload_n 0, 0, 0, []) else am_nop) else (bif Nat.beq pc 36 then (.ifCond .ne 12, 0, 48, []) else am_nop)) else (bif Nat.beq pc 35 then (.iload_n 1, 0, 1, []) else am_nop))) else (bif Nat.ble 31 pc then (bif Nat.ble 32 pc then (bif Nat.ble 33 pc then (bif Nat.beq pc 33 then (.istore 8, 0, 8, []) else am_nop) else (bif Nat.beq pc 32 then (.l2i, 0, 0, []) else am_nop)) else (bif Nat.beq pc 31 then (.lrem, 0, 0, []) else am_nop)) else (bif Nat.ble 26 pc then (bif Nat.ble 28 pc then (bif Nat.beq pc 28 then (.ldc2_w 13, 0, 0, []) else am_nop) else (bif Nat.beq pc 26 then (.lload 4, 0, 4, []) else am_nop)) else (bif Nat.beq pc 24 then (.istore 7, 0, 7, []) else am_nop)))) else (bif Nat.ble 11 pc then (bif Nat.ble 18 pc then (bif Nat.ble 22 pc then (bif Nat.ble 23 pc then (bif Nat.beq pc 23 then (.l2i, 0, 0, []) else am_nop) else (bif Nat.beq pc 22 then (.lrem, 0, 0, []) else am_nop)) else (bif Nat.ble 19 pc then (bif Nat.beq pc 19 then (.ldc2_w 15, 0, 0, []) else am_nop) else (bif Nat.beq pc 18 then (.ldiv, 0, 0, []) else am_nop))) else (bif Nat.ble 13 pc then (bif Nat.ble 15 pc then (bif Nat.beq pc 15 then (.ldc2_w 13, 0, 0, []) else am_nop) else (bif Nat.beq pc 13 then (.lload 4, 0, 4, []) else am_nop)) else (bif Nat.beq pc 11 then (.istore 6, 0, 6, []) else am_nop))) else (bif Nat.ble 6 pc then (bif Nat.ble 9 pc then (bif Nat.ble 10 pc then (bif Nat.beq pc 10 then (.l2i, 0, 0, []) else am_nop) else (bif Nat.beq pc 9 then (.lrem, 0, 0, []) else am_nop)) else (bif Nat.beq pc 6 then (.ldc2_w 11, 0, 0, []) else am_nop)) else (bif Nat.ble 2 pc then (bif Nat.ble 5 pc then (bif Nat.beq pc 5 then (.ldiv, 0, 0, []) else am_nop) else (bif Nat.beq pc 2 then (.ldc2_w 9, 0, 0, []) else am_nop)) else (bif Nat.beq pc 0 then (.lload 4, 0, 4, []) else am_nop)))))))
theorem lk_L_17 : am_lnk RL 17 (d_B_layover 15) := ⟨⟨by decide, by decide⟩, am_tb 1 (by decide +kernel) rfl, Or.inr ⟨by decide, rfl, am_tb 527 (by decide +kernel) rfl, am_tb 528 (by decide +kernel) rfl, ⟨TX5, 10, rfl⟩, Or.inl (am_tb 526 (by decide +kernel) rfl)⟩⟩
theorem lk_L_23 : am_lnk RL 23 (d_B_relief 15) := ⟨⟨by decide, by decide⟩, am_tb 1 (by decide +kernel) rfl, Or.inr ⟨by decide, rfl, am_tb 550 (by decide +kernel) rfl, am_tb 551 (by decide +kernel) rfl, ⟨TX5, 10, rfl⟩, Or.inl (am_tb 549 (by decide +kernel) rfl)⟩⟩
theorem lk_L_27 : am_lnk RL 27 (d_B_trip 15) := ⟨⟨by decide, by decide⟩, am_tb 1 (by decide +kernel) rfl, Or.inr ⟨by decide, rfl, am_tb 223 (by decide +kernel) rfl, am_tb 224 (by decide +kernel) rfl, ⟨TX5, 10, rfl⟩, Or.inl (am_tb 222 (by decide +kernel) rfl)⟩⟩
theorem lk_L_31 : am_lnk RL 31 (d_B_shift 15) := ⟨⟨by decide, by decide⟩, am_tb 1 (by decide +kernel) rfl, Or.inr ⟨by decide, rfl, am_tb 554 (by decide +kernel) rfl, am_tb 555 (by decide +kernel) rfl, ⟨TX5, 10, rfl⟩, Or.inl (am_tb 553 (by decide +kernel) rfl)⟩⟩
theorem lk_L_34 : am_lnk RL 34 (d_B_set 15) := ⟨⟨by decide, by decide⟩, am_tb 1 (by decide +kernel) rfl, Or.inr ⟨by decide, rfl, am_tb 577 (by decide +kernel) rfl, am_tb 578 (by decide +kernel) rfl, ⟨TX5, 10, rfl⟩, Or.inl (am_tb 576 (by decide +kernel) rfl)⟩⟩
theorem lk_L_37 : am_lnk RL 37 (d_B_follow 15) := ⟨⟨by decide, by decide⟩, am_tb 1 (by decide +kernel) rfl, Or.inr ⟨by decide, rfl, am_tb 589 (by decide +kernel) rfl, am_tb 590 (by decide +kernel) rfl, ⟨TX5, 10, rfl⟩, Or.inl (am_tb 588 (by decide +kernel) rfl)⟩⟩
theorem lk_L_40 : am_lnk RL 40 (d_B_part 15) := ⟨⟨by decide, by decide⟩, am_tb 1 (by decide +kernel) rfl, Or.inr ⟨by decide, rfl, am_tb 595 (by decide +kernel) rfl, am_tb 596 (by decide +kernel) rfl, ⟨TX5, 10, rfl⟩, Or.inl (am_tb 594 (by decide +kernel) rfl)⟩⟩
theorem lk_L_43 : am_lnk RL 43 (d_B_blockAll 15) := ⟨⟨by decide, by decide⟩, am_tb 1 (by decide +kernel) rfl, Or.inr ⟨by decide, rfl, am_tb 345 (by decide +kernel) rfl, am_tb 346 (by decide +kernel) rfl, ⟨TX5, 10, rfl⟩, Or.inl (am_tb 344 (by decide +kernel) rfl)⟩⟩
theorem lk_L_47 : am_lnk RL 47 (d_B_fail 15) := ⟨⟨by decide, by decide⟩, am_tb 1 (by decide +kernel) rfl, Or.inr ⟨by decide, rfl, am_tb 600 (by decide +kernel) rfl, am_tb 601 (by decide +kernel) rfl, ⟨TX5, 10, rfl⟩, Or.inl (am_tb 599 (by decide +kernel) rfl)⟩⟩
theorem lk_L_53 : am_lnk RL 53 (d_B_load 15) := ⟨⟨by decide, by decide⟩, am_tb 1 (by decide +kernel) rfl, Or.inr ⟨by decide, rfl, am_tb 625 (by decide +kernel) rfl, am_tb 626 (by decide +kernel) rfl, ⟨TX5, 10, rfl⟩, Or.inl (am_tb 624 (by decide +kernel) rfl)⟩⟩
theorem lk_L_56 : am_lnk RL 56 (d_B_keep 15) := ⟨⟨by decide, by decide⟩, am_tb 1 (by decide +kernel) rfl, Or.inr ⟨by decide, rfl, am_tb 400 (by decide +kernel) rfl, am_tb 401 (by decide +kernel) rfl, ⟨TX5, 10, rfl⟩, Or.inl (am_tb 399 (by decide +kernel) rfl)⟩⟩
theorem lk_L_59 : am_lnk RL 59 (d_B_goBack 15) := ⟨⟨by decide, by decide⟩, am_tb 1 (by decide +kernel) rfl, Or.inr ⟨by decide, rfl, am_tb 405 (by decide +kernel) rfl, am_tb 406 (by decide +kernel) rfl, ⟨TX5, 10, rfl⟩, Or.inl (am_tb 404 (by decide +kernel) rfl)⟩⟩
theorem lk_L_62 : am_lnk RL 62 (d_B_undo 15) := ⟨⟨by decide, by decide⟩, am_tb 1 (by decide +kernel) rfl, Or.inr ⟨by decide, rfl, am_tb 415 (by decide +kernel) rfl, am_tb 416 (by decide +kernel) rfl, ⟨TX5, 10, rfl⟩, Or.inl (am_tb 414 (by decide +kernel) rfl)⟩⟩
theorem lk_L_71 : am_lnk RL 71 (d_B_blockOf 15) := ⟨⟨by decide, by decide⟩, am_tb 1 (by decide +kernel) rfl, Or.inr ⟨by decide, rfl, am_tb 695 (by decide +kernel) rfl, am_tb 696 (by decide +kernel) rfl, ⟨TX5, 10, rfl⟩, Or.inl (am_tb 694 (by decide +kernel) rfl)⟩⟩
theorem lk_L_74 : am_lnk RL 74 (d_B_duty 15) := ⟨⟨by decide, by decide⟩, am_tb 1 (by decide +kernel) rfl, Or.inr ⟨by decide, rfl, am_tb 738 (by decide +kernel) rfl, am_tb 739 (by decide +kernel) rfl, ⟨TX5, 10, rfl⟩, Or.inl (am_tb 737 (by decide +kernel) rfl)⟩⟩
theorem lk_L_84 : am_lnk RL 84 (d_B_whyNot 15) := ⟨⟨by decide, by decide⟩, am_tb 1 (by decide +kernel) rfl, Or.inr ⟨by decide, rfl, am_tb 752 (by decide +kernel) rfl, am_tb 753 (by decide +kernel) rfl, ⟨TX5, 10, rfl⟩, Or.inl (am_tb 751 (by decide +kernel) rfl)⟩⟩
theorem lk_L_87 : am_lnk RL 87 (d_B_ifTrip 15) := ⟨⟨by decide, by decide⟩, am_tb 1 (by decide +kernel) rfl, Or.inr ⟨by decide, rfl, am_tb 756 (by decide +kernel) rfl, am_tb 757 (by decide +kernel) rfl, ⟨TX5, 10, rfl⟩, Or.inl (am_tb 755 (by decide +kernel) rfl)⟩⟩
theorem lk_L_90 : am_lnk RL 90 (d_B_bestTime 15) := ⟨⟨by decide, by decide⟩, am_tb 1 (by decide +kernel) rfl, Or.inr ⟨by decide, rfl, am_tb 764 (by decide +kernel) rfl, am_tb 765 (by decide +kernel) rfl, ⟨TX5, 10, rfl⟩, Or.inl (am_tb 763 (by decide +kernel) rfl)⟩⟩
theorem lk_L_93 : am_lnk RL 93 (d_B_ifFailed 15) := ⟨⟨by decide, by decide⟩, am_tb 1 (by decide +kernel) rfl, Or.inr ⟨by decide, rfl, am_tb 768 (by decide +kernel) rfl, am_tb 769 (by decide +kernel) rfl, ⟨TX5, 10, rfl⟩, Or.inl (am_tb 767 (by decide +kernel) rfl)⟩⟩
theorem ck_L_9 : am_cok RL 9 (.long 10000000) := am_tb 522 (by decide +kernel) rfl
theorem ck_L_11 : am_cok RL 11 (.long 10) := am_tb 523 (by decide +kernel) rfl
theorem ck_L_13 : am_cok RL 13 (.long 1000) := am_tb 524 (by decide +kernel) rfl
theorem ck_L_15 : am_cok RL 15 (.long 10000) := am_tb 525 (by decide +kernel) rfl
def hs_call : Hs := [("java/lang/IndexOutOfBoundsException", -11, 96, 379), ("java/lang/IllegalArgumentException", -12, 98, 384), ("java/lang/IllegalStateException", -13, 100, 389)]
abbrev hl_call : List (String × Int32) := hs_call.map (fun q => (q.1, q.2.1))
def m_L_call : MI := (k_L_call, [], [(17, d_B_layover 15), (23, d_B_relief 15), (27, d_B_trip 15), (31, d_B_shift 15), (34, d_B_set 15), (37, d_B_follow 15), (40, d_B_part 15), (43, d_B_blockAll 15), (47, d_B_fail 15), (50, d_B_append 15), (53, d_B_load 15), (56, d_B_keep 15), (59, d_B_goBack 15), (62, d_B_undo 15), (65, d_B_terminalOf 15), (68, d_B_tripOf 15), (71, d_B_blockOf 15), (74, d_B_duty 15), (78, d_B_count 15), (81, d_B_setting 15), (84, d_B_whyNot 15), (87, d_B_ifTrip 15), (90, d_B_bestTime 15), (93, d_B_ifFailed 15)], [(9, .long 10000000), (11, .long 10), (13, .long 1000), (15, .long 10000)], [], [], [(42, hl_call), (55, hl_call), (75, hl_call), (89, hl_call), (103, hl_call), (117, hl_call), (131, hl_call), (144, hl_call), (158, hl_call), (172, hl_call), (185, hl_call), (199, hl_call), (213, hl_call), (226, hl_call), (241, hl_call), (256, hl_call), (271, hl_call), (288, hl_call), (302, hl_call), (316, hl_call), (331, hl_call), (352, hl_call), (367, hl_call), (375, hl_call)], 9, 167, some .int, fun _ => 0, 2)
def hx (h : HP) : String ⊕ (Int32 × HP) → Int32 × HP
  | .inl E => (hcode hs_call E, h)
  | .inr q => q
def hy (h : HP) : String ⊕ Int32 → Int32 × HP
  | .inl E => (hcode hs_call E, h)
  | .inr q => (q, h)
def hu : (String × HP) ⊕ (Int32 × HP) → Int32 × HP
  | .inl q => (hcode hs_call q.1, q.2)
  | .inr q => q
def okE (o : Option String) : Prop := ∀ E, o = some E → E ∈ hs_call.map (fun q => q.1)
/-- the third, fourth and fifth number of a call -/
def mc1 (m : Int64) : Int32 := (m / 10000000 - m / 10000000 / 10 * 10).toInt32
def mc2 (m : Int64) : Int32 := (m / 1000 - m / 1000 / 10000 * 10000).toInt32
def mc3 (m : Int64) : Int32 := (m - m / 1000 * 1000).toInt32
def cj (w : Int32) : Nat := if w = 0 then 0 else if w = 1 then 1 else if w = 2 then 2 else if w = 3 then 3 else if w = 4 then 4 else if w = 5 then 5 else if w = 6 then 6 else if w = 7 then 7 else if w = 8 then 8 else if w = 9 then 9 else if w = 10 then 10 else if w = 11 then 11 else if w = 12 then 12 else if w = 13 then 13 else if w = 14 then 14 else if w = 15 then 15 else if w = 16 then 16 else if w = 17 then 17 else if w = 18 then 18 else if w = 19 then 19 else if w = 20 then 20 else if w = 21 then 21 else if w = 22 then 22 else 23
def v_leaf (h : HP) (j : Nat) (a b C D E : Int32) : Int32 × HP := match j with
  | 0 => hx h (v_B_layover h a b)
  | 1 => hx h (v_B_relief h a)
  | 2 => hx h (v_B_trip h a b C D E)
  | 3 => hx h (v_B_shift h a b)
  | 4 => hx h (v_B_set h a b)
  | 5 => hx h (v_B_follow h a b)
  | 6 => hx h (v_B_part h a)
  | 7 => v_B_blockAll h
  | 8 => hx h (v_B_fail h a)
  | 9 => hx h (v_B_append h a)
  | 10 => hu (v_B_load h)
  | 11 => hx h (v_B_keep h a)
  | 12 => hx h (v_B_goBack h a)
  | 13 => hx h (v_B_undo h)
  | 14 => hx h (v_B_terminalOf h a b)
  | 15 => hy h (v_B_tripOf h a b)
  | 16 => hx h (v_B_blockOf h a b)
  | 17 => hy h (v_B_duty h a b E)
  | 18 => hx h (v_B_count h a)
  | 19 => hy h (v_B_setting h a)
  | 20 => hy h (v_B_whyNot h a b)
  | 21 => hx h (v_B_ifTrip h a b C D E)
  | 22 => hx h (v_B_bestTime h a b)
  | _ => hy h (v_B_ifFailed h a)
def p_leaf (h : HP) (j : Nat) (a b C D E : Int32) : Prop := match j with
  | 0 => p_B_layover h a b ∧ okE (rthr (v_B_layover h a b))
  | 1 => p_B_relief h a ∧ okE (rthr (v_B_relief h a))
  | 2 => p_B_trip h a b C D E ∧ okE (rthr (v_B_trip h a b C D E))
  | 3 => p_B_shift h a b ∧ okE (rthr (v_B_shift h a b))
  | 4 => p_B_set h a b ∧ okE (rthr (v_B_set h a b))
  | 5 => p_B_follow h a b ∧ okE (rthr (v_B_follow h a b))
  | 6 => p_B_part h a ∧ okE (rthr (v_B_part h a))
  | 7 => p_B_blockAll h ∧ True
  | 8 => p_B_fail h a ∧ okE (rthr (v_B_fail h a))
  | 9 => True ∧ okE (rthr (v_B_append h a))
  | 10 => p_B_load h ∧ okE (rthrU (v_B_load h))
  | 11 => p_B_keep h a ∧ okE (rthr (v_B_keep h a))
  | 12 => p_B_goBack h a ∧ okE (rthr (v_B_goBack h a))
  | 13 => p_B_undo h ∧ okE (rthr (v_B_undo h))
  | 14 => p_B_terminalOf h a b ∧ okE (rthr (v_B_terminalOf h a b))
  | 15 => p_B_tripOf h a b ∧ okE (rthr (v_B_tripOf h a b))
  | 16 => p_B_blockOf h a b ∧ okE (rthr (v_B_blockOf h a b))
  | 17 => p_B_duty h a b E ∧ okE (rthr (v_B_duty h a b E))
  | 18 => p_B_count h a ∧ okE (rthr (v_B_count h a))
  | 19 => True ∧ okE (rthr (v_B_setting h a))
  | 20 => True ∧ okE (rthr (v_B_whyNot h a b))
  | 21 => p_B_ifTrip h a b C D E ∧ okE (rthr (v_B_ifTrip h a b C D E))
  | 22 => p_B_bestTime h a b ∧ okE (rthr (v_B_bestTime h a b))
  | _ => p_B_ifFailed h a ∧ okE (rthr (v_B_ifFailed h a))
def v_L_call (h : HP) (w a b : Int32) (m : Int64) : Int32 × HP := v_leaf h (cj w) a b (mc1 m) (mc2 m) (mc3 m)
def p_L_call (h : HP) (w a b : Int32) (m : Int64) : Prop := p_leaf h (cj w) a b (mc1 m) (mc2 m) (mc3 m)
def g_L_call (_ _ : List Sh) (as : List Value) (h : HP) : GR := match as with
  | [.ref o, .int w, .int a, .int b, .long m] => (Nat.beq o 38, p_L_call h w a b m, none, some (.int (v_L_call h w a b m).1), (v_L_call h w a b m).2)
  | _ => bad h
def d_L_call : CD := (4, yL_call, cL_call, 10, some .int, 5, 9, 167, 1, false, true, g_L_call)
theorem chk_L_call : ∀ pc, am_chk cL_call k_L_call pc = true := am_chkall 394 (by decide +kernel) (fun pc h => by unfold k_L_call; rw [Nat.ble_eq_true_of_le h]; rfl)
theorem pf_L_call : plainFor yL_call = true := by decide +kernel
theorem cu_L_call : Cond.codeWith yL_call cL_call 10 (some .int) (tabQ 35 378 hs_call) ∈ am_U := am_tb 518 (by decide +kernel) rfl
theorem hsQ_call : hsQ cL_call 10 hs_call := am_c (⟨am_tb 519 (by decide +kernel) rfl, am_tb 535 (by decide +kernel) rfl, by decide, 9, Nat.le_of_ble_eq_true rfl, by decide +kernel, ⟨-11, by decide +kernel, rfl⟩, by decide +kernel⟩) (am_c (⟨am_tb 520 (by decide +kernel) rfl, am_tb 234 (by decide +kernel) rfl, by decide, 9, Nat.le_of_ble_eq_true rfl, by decide +kernel, ⟨-12, by decide +kernel, rfl⟩, by decide +kernel⟩) (am_c (⟨am_tb 521 (by decide +kernel) rfl, am_tb 302 (by decide +kernel) rfl, by decide, 9, Nat.le_of_ble_eq_true rfl, by decide +kernel, ⟨-13, by decide +kernel, rfl⟩, by decide +kernel⟩) am_n))
set_option maxRecDepth 100000 in
theorem lf_call_0 {e1 e2 : List Sh} {P : AR → HP → Prop} (h : HP) (w a b : Int32) (m : Int64) (C D E : Int32) (hp : p_leaf h 0 a b C D E) (hP : P (.inl (some (.int (v_leaf h 0 a b C D E).1))) (v_leaf h 0 a b C D E).2) : am_Ev m_L_call (WB ++ e1) (RO ++ e2) P (39, [.ref 38, .int w, .int a, .int b, .long m, .retAddr 0, .int C, .int D, .int E, .retAddr 0], [], h) := by
  have hp : p_B_layover h a b ∧ okE (rthr (v_B_layover h a b)) := hp
  have hP : P (.inl (some (.int (hx h (v_B_layover h a b)).1))) (hx h (v_B_layover h a b)).2 := hP
  refine am_Ev_G [42] 20 _ ?_
  show am_Ev m_L_call (WB ++ e1) (RO ++ e2) P (42, [.ref 38, .int w, .int a, .int b, .long m, .retAddr 0, .int C, .int D, .int E, .retAddr 0], [.int b, .int a, .ref 38], h)
  refine am_Ev_callH true (i := 17) (cd := d_B_layover 15) (g := g_B_layover (WB ++ e1) (RO ++ e2) [.ref 38, .int a, .int b] h) rfl rfl rfl rfl rfl (Nat.le_refl _) (Nat.le_of_ble_eq_true rfl) hp.1 ?_ ?_
  · intro E2 _ hE
    have hE : rthr (v_B_layover h a b) = some E2 := hE
    refine hd_mk hs_call (hp.2 E2 hE) ?_
    show P _ (rhpI h (v_B_layover h a b))
    cases hv : v_B_layover h a b with
    | inl E3 => rw [hv] at hE hP; cases hE; exact hP
    | inr q => rw [hv] at hE; cases hE
  · intro hN
    have hN : rthr (v_B_layover h a b) = none := hN rfl
    show am_Ev m_L_call (WB ++ e1) (RO ++ e2) P (45, [.ref 38, .int w, .int a, .int b, .long m, .retAddr 0, .int C, .int D, .int E, .retAddr 0], (rvIW (v_B_layover h a b)).toList ++ [], rhpI h (v_B_layover h a b))
    cases hv : v_B_layover h a b with
    | inl E3 => rw [hv] at hN; cases hN
    | inr q =>
      rw [hv] at hP
      refine am_Ev_G [] 20 _ ?_
      exact hP
set_option maxRecDepth 100000 in
theorem lf_call_1 {e1 e2 : List Sh} {P : AR → HP → Prop} (h : HP) (w a b : Int32) (m : Int64) (C D E : Int32) (hp : p_leaf h 1 a b C D E) (hP : P (.inl (some (.int (v_leaf h 1 a b C D E).1))) (v_leaf h 1 a b C D E).2) : am_Ev m_L_call (WB ++ e1) (RO ++ e2) P (53, [.ref 38, .int w, .int a, .int b, .long m, .retAddr 0, .int C, .int D, .int E, .retAddr 0], [], h) := by
  have hp : p_B_relief h a ∧ okE (rthr (v_B_relief h a)) := hp
  have hP : P (.inl (some (.int (hx h (v_B_relief h a)).1))) (hx h (v_B_relief h a)).2 := hP
  refine am_Ev_G [55] 20 _ ?_
  show am_Ev m_L_call (WB ++ e1) (RO ++ e2) P (55, [.ref 38, .int w, .int a, .int b, .long m, .retAddr 0, .int C, .int D, .int E, .retAddr 0], [.int a, .ref 38], h)
  refine am_Ev_callH true (i := 23) (cd := d_B_relief 15) (g := g_B_relief (WB ++ e1) (RO ++ e2) [.ref 38, .int a] h) rfl rfl rfl rfl rfl (Nat.le_refl _) (Nat.le_of_ble_eq_true rfl) hp.1 ?_ ?_
  · intro E2 _ hE
    have hE : rthr (v_B_relief h a) = some E2 := hE
    refine hd_mk hs_call (hp.2 E2 hE) ?_
    show P _ (rhpI h (v_B_relief h a))
    cases hv : v_B_relief h a with
    | inl E3 => rw [hv] at hE hP; cases hE; exact hP
    | inr q => rw [hv] at hE; cases hE
  · intro hN
    have hN : rthr (v_B_relief h a) = none := hN rfl
    show am_Ev m_L_call (WB ++ e1) (RO ++ e2) P (58, [.ref 38, .int w, .int a, .int b, .long m, .retAddr 0, .int C, .int D, .int E, .retAddr 0], (rvIW (v_B_relief h a)).toList ++ [], rhpI h (v_B_relief h a))
    cases hv : v_B_relief h a with
    | inl E3 => rw [hv] at hN; cases hN
    | inr q =>
      rw [hv] at hP
      refine am_Ev_G [] 20 _ ?_
      exact hP
set_option maxRecDepth 100000 in
theorem lf_call_2 {e1 e2 : List Sh} {P : AR → HP → Prop} (h : HP) (w a b : Int32) (m : Int64) (C D E : Int32) (hp : p_leaf h 2 a b C D E) (hP : P (.inl (some (.int (v_leaf h 2 a b C D E).1))) (v_leaf h 2 a b C D E).2) : am_Ev m_L_call (WB ++ e1) (RO ++ e2) P (66, [.ref 38, .int w, .int a, .int b, .long m, .retAddr 0, .int C, .int D, .int E, .retAddr 0], [], h) := by
  have hp : p_B_trip h a b C D E ∧ okE (rthr (v_B_trip h a b C D E)) := hp
  have hP : P (.inl (some (.int (hx h (v_B_trip h a b C D E)).1))) (hx h (v_B_trip h a b C D E)).2 := hP
  refine am_Ev_G [75] 20 _ ?_
  show am_Ev m_L_call (WB ++ e1) (RO ++ e2) P (75, [.ref 38, .int w, .int a, .int b, .long m, .retAddr 0, .int C, .int D, .int E, .retAddr 0], [.int E, .int D, .int C, .int b, .int a, .ref 38], h)
  refine am_Ev_callH true (i := 27) (cd := d_B_trip 15) (g := g_B_trip (WB ++ e1) (RO ++ e2) [.ref 38, .int a, .int b, .int C, .int D, .int E] h) rfl rfl rfl rfl rfl (Nat.le_refl _) (Nat.le_of_ble_eq_true rfl) hp.1 ?_ ?_
  · intro E2 _ hE
    have hE : rthr (v_B_trip h a b C D E) = some E2 := hE
    refine hd_mk hs_call (hp.2 E2 hE) ?_
    show P _ (rhpI h (v_B_trip h a b C D E))
    cases hv : v_B_trip h a b C D E with
    | inl E3 => rw [hv] at hE hP; cases hE; exact hP
    | inr q => rw [hv] at hE; cases hE
  · intro hN
    have hN : rthr (v_B_trip h a b C D E) = none := hN rfl
    show am_Ev m_L_call (WB ++ e1) (RO ++ e2) P (78, [.ref 38, .int w, .int a, .int b, .long m, .retAddr 0, .int C, .int D, .int E, .retAddr 0], (rvIW (v_B_trip h a b C D E)).toList ++ [], rhpI h (v_B_trip h a b C D E))
    cases hv : v_B_trip h a b C D E with
    | inl E3 => rw [hv] at hN; cases hN
    | inr q =>
      rw [hv] at hP
      refine am_Ev_G [] 20 _ ?_
      exact hP
set_option maxRecDepth 100000 in
theorem lf_call_3 {e1 e2 : List Sh} {P : AR → HP → Prop} (h : HP) (w a b : Int32) (m : Int64) (C D E : Int32) (hp : p_leaf h 3 a b C D E) (hP : P (.inl (some (.int (v_leaf h 3 a b C D E).1))) (v_leaf h 3 a b C D E).2) : am_Ev m_L_call (WB ++ e1) (RO ++ e2) P (86, [.ref 38, .int w, .int a, .int b, .long m, .retAddr 0, .int C, .int D, .int E, .retAddr 0], [], h) := by
  have hp : p_B_shift h a b ∧ okE (rthr (v_B_shift h a b)) := hp
  have hP : P (.inl (some (.int (hx h (v_B_shift h a b)).1))) (hx h (v_B_shift h a b)).2 := hP
  refine am_Ev_G [89] 20 _ ?_
  show am_Ev m_L_call (WB ++ e1) (RO ++ e2) P (89, [.ref 38, .int w, .int a, .int b, .long m, .retAddr 0, .int C, .int D, .int E, .retAddr 0], [.int b, .int a, .ref 38], h)
  refine am_Ev_callH true (i := 31) (cd := d_B_shift 15) (g := g_B_shift (WB ++ e1) (RO ++ e2) [.ref 38, .int a, .int b] h) rfl rfl rfl rfl rfl (Nat.le_refl _) (Nat.le_of_ble_eq_true rfl) hp.1 ?_ ?_
  · intro E2 _ hE
    have hE : rthr (v_B_shift h a b) = some E2 := hE
    refine hd_mk hs_call (hp.2 E2 hE) ?_
    show P _ (rhpI h (v_B_shift h a b))
    cases hv : v_B_shift h a b with
    | inl E3 => rw [hv] at hE hP; cases hE; exact hP
    | inr q => rw [hv] at hE; cases hE
  · intro hN
    have hN : rthr (v_B_shift h a b) = none := hN rfl
    show am_Ev m_L_call (WB ++ e1) (RO ++ e2) P (92, [.ref 38, .int w, .int a, .int b, .long m, .retAddr 0, .int C, .int D, .int E, .retAddr 0], (rvIW (v_B_shift h a b)).toList ++ [], rhpI h (v_B_shift h a b))
    cases hv : v_B_shift h a b with
    | inl E3 => rw [hv] at hN; cases hN
    | inr q =>
      rw [hv] at hP
      refine am_Ev_G [] 20 _ ?_
      exact hP
set_option maxRecDepth 100000 in
theorem lf_call_4 {e1 e2 : List Sh} {P : AR → HP → Prop} (h : HP) (w a b : Int32) (m : Int64) (C D E : Int32) (hp : p_leaf h 4 a b C D E) (hP : P (.inl (some (.int (v_leaf h 4 a b C D E).1))) (v_leaf h 4 a b C D E).2) : am_Ev m_L_call (WB ++ e1) (RO ++ e2) P (100, [.ref 38, .int w, .int a, .int b, .long m, .retAddr 0, .int C, .int D, .int E, .retAddr 0], [], h) := by
  have hp : p_B_set h a b ∧ okE (rthr (v_B_set h a b)) := hp
  have hP : P (.inl (some (.int (hx h (v_B_set h a b)).1))) (hx h (v_B_set h a b)).2 := hP
  refine am_Ev_G [103] 20 _ ?_
  show am_Ev m_L_call (WB ++ e1) (RO ++ e2) P (103, [.ref 38, .int w, .int a, .int b, .long m, .retAddr 0, .int C, .int D, .int E, .retAddr 0], [.int b, .int a, .ref 38], h)
  refine am_Ev_callH true (i := 34) (cd := d_B_set 15) (g := g_B_set (WB ++ e1) (RO ++ e2) [.ref 38, .int a, .int b] h) rfl rfl rfl rfl rfl (Nat.le_refl _) (Nat.le_of_ble_eq_true rfl) hp.1 ?_ ?_
  · intro E2 _ hE
    have hE : rthr (v_B_set h a b) = some E2 := hE
    refine hd_mk hs_call (hp.2 E2 hE) ?_
    show P _ (rhpI h (v_B_set h a b))
    cases hv : v_B_set h a b with
    | inl E3 => rw [hv] at hE hP; cases hE; exact hP
    | inr q => rw [hv] at hE; cases hE
  · intro hN
    have hN : rthr (v_B_set h a b) = none := hN rfl
    show am_Ev m_L_call (WB ++ e1) (RO ++ e2) P (106, [.ref 38, .int w, .int a, .int b, .long m, .retAddr 0, .int C, .int D, .int E, .retAddr 0], (rvIW (v_B_set h a b)).toList ++ [], rhpI h (v_B_set h a b))
    cases hv : v_B_set h a b with
    | inl E3 => rw [hv] at hN; cases hN
    | inr q =>
      rw [hv] at hP
      refine am_Ev_G [] 20 _ ?_
      exact hP
set_option maxRecDepth 100000 in
theorem lf_call_5 {e1 e2 : List Sh} {P : AR → HP → Prop} (h : HP) (w a b : Int32) (m : Int64) (C D E : Int32) (hp : p_leaf h 5 a b C D E) (hP : P (.inl (some (.int (v_leaf h 5 a b C D E).1))) (v_leaf h 5 a b C D E).2) : am_Ev m_L_call (WB ++ e1) (RO ++ e2) P (114, [.ref 38, .int w, .int a, .int b, .long m, .retAddr 0, .int C, .int D, .int E, .retAddr 0], [], h) := by
  have hp : p_B_follow h a b ∧ okE (rthr (v_B_follow h a b)) := hp
  have hP : P (.inl (some (.int (hx h (v_B_follow h a b)).1))) (hx h (v_B_follow h a b)).2 := hP
  refine am_Ev_G [117] 20 _ ?_
  show am_Ev m_L_call (WB ++ e1) (RO ++ e2) P (117, [.ref 38, .int w, .int a, .int b, .long m, .retAddr 0, .int C, .int D, .int E, .retAddr 0], [.int b, .int a, .ref 38], h)
  refine am_Ev_callH true (i := 37) (cd := d_B_follow 15) (g := g_B_follow (WB ++ e1) (RO ++ e2) [.ref 38, .int a, .int b] h) rfl rfl rfl rfl rfl (Nat.le_refl _) (Nat.le_of_ble_eq_true rfl) hp.1 ?_ ?_
  · intro E2 _ hE
    have hE : rthr (v_B_follow h a b) = some E2 := hE
    refine hd_mk hs_call (hp.2 E2 hE) ?_
    show P _ (rhpI h (v_B_follow h a b))
    cases hv : v_B_follow h a b with
    | inl E3 => rw [hv] at hE hP; cases hE; exact hP
    | inr q => rw [hv] at hE; cases hE
  · intro hN
    have hN : rthr (v_B_follow h a b) = none := hN rfl
    show am_Ev m_L_call (WB ++ e1) (RO ++ e2) P (120, [.ref 38, .int w, .int a, .int b, .long m, .retAddr 0, .int C, .int D, .int E, .retAddr 0], (rvIW (v_B_follow h a b)).toList ++ [], rhpI h (v_B_follow h a b))
    cases hv : v_B_follow h a b with
    | inl E3 => rw [hv] at hN; cases hN
    | inr q =>
      rw [hv] at hP
      refine am_Ev_G [] 20 _ ?_
      exact hP
set_option maxRecDepth 100000 in
theorem lf_call_6 {e1 e2 : List Sh} {P : AR → HP → Prop} (h : HP) (w a b : Int32) (m : Int64) (C D E : Int32) (hp : p_leaf h 6 a b C D E) (hP : P (.inl (some (.int (v_leaf h 6 a b C D E).1))) (v_leaf h 6 a b C D E).2) : am_Ev m_L_call (WB ++ e1) (RO ++ e2) P (129, [.ref 38, .int w, .int a, .int b, .long m, .retAddr 0, .int C, .int D, .int E, .retAddr 0], [], h) := by
  have hp : p_B_part h a ∧ okE (rthr (v_B_part h a)) := hp
  have hP : P (.inl (some (.int (hx h (v_B_part h a)).1))) (hx h (v_B_part h a)).2 := hP
  refine am_Ev_G [131] 20 _ ?_
  show am_Ev m_L_call (WB ++ e1) (RO ++ e2) P (131, [.ref 38, .int w, .int a, .int b, .long m, .retAddr 0, .int C, .int D, .int E, .retAddr 0], [.int a, .ref 38], h)
  refine am_Ev_callH true (i := 40) (cd := d_B_part 15) (g := g_B_part (WB ++ e1) (RO ++ e2) [.ref 38, .int a] h) rfl rfl rfl rfl rfl (Nat.le_refl _) (Nat.le_of_ble_eq_true rfl) hp.1 ?_ ?_
  · intro E2 _ hE
    have hE : rthr (v_B_part h a) = some E2 := hE
    refine hd_mk hs_call (hp.2 E2 hE) ?_
    show P _ (rhpI h (v_B_part h a))
    cases hv : v_B_part h a with
    | inl E3 => rw [hv] at hE hP; cases hE; exact hP
    | inr q => rw [hv] at hE; cases hE
  · intro hN
    have hN : rthr (v_B_part h a) = none := hN rfl
    show am_Ev m_L_call (WB ++ e1) (RO ++ e2) P (134, [.ref 38, .int w, .int a, .int b, .long m, .retAddr 0, .int C, .int D, .int E, .retAddr 0], (rvIW (v_B_part h a)).toList ++ [], rhpI h (v_B_part h a))
    cases hv : v_B_part h a with
    | inl E3 => rw [hv] at hN; cases hN
    | inr q =>
      rw [hv] at hP
      refine am_Ev_G [] 20 _ ?_
      exact hP
set_option maxRecDepth 100000 in
theorem lf_call_7 {e1 e2 : List Sh} {P : AR → HP → Prop} (h : HP) (w a b : Int32) (m : Int64) (C D E : Int32) (hp : p_leaf h 7 a b C D E) (hP : P (.inl (some (.int (v_leaf h 7 a b C D E).1))) (v_leaf h 7 a b C D E).2) : am_Ev m_L_call (WB ++ e1) (RO ++ e2) P (143, [.ref 38, .int w, .int a, .int b, .long m, .retAddr 0, .int C, .int D, .int E, .retAddr 0], [], h) := by
  have hp : p_B_blockAll h ∧ True := hp
  have hP : P (.inl (some (.int (v_B_blockAll h).1))) (v_B_blockAll h).2 := hP
  refine am_Ev_G [144] 20 _ ?_
  show am_Ev m_L_call (WB ++ e1) (RO ++ e2) P (144, [.ref 38, .int w, .int a, .int b, .long m, .retAddr 0, .int C, .int D, .int E, .retAddr 0], [.ref 38], h)
  refine am_Ev_callH true (i := 43) (cd := d_B_blockAll 15) (g := g_B_blockAll (WB ++ e1) (RO ++ e2) [.ref 38] h) rfl rfl rfl rfl rfl (Nat.le_refl _) (Nat.le_of_ble_eq_true rfl) hp.1 ?_ ?_
  · intro E2 z; cases (show false = true from z)
  · intro _
    show am_Ev m_L_call (WB ++ e1) (RO ++ e2) P (147, [.ref 38, .int w, .int a, .int b, .long m, .retAddr 0, .int C, .int D, .int E, .retAddr 0], [.int (v_B_blockAll h).1], (v_B_blockAll h).2)
    refine am_Ev_G [] 20 _ ?_
    exact hP
set_option maxRecDepth 100000 in
theorem lf_call_8 {e1 e2 : List Sh} {P : AR → HP → Prop} (h : HP) (w a b : Int32) (m : Int64) (C D E : Int32) (hp : p_leaf h 8 a b C D E) (hP : P (.inl (some (.int (v_leaf h 8 a b C D E).1))) (v_leaf h 8 a b C D E).2) : am_Ev m_L_call (WB ++ e1) (RO ++ e2) P (156, [.ref 38, .int w, .int a, .int b, .long m, .retAddr 0, .int C, .int D, .int E, .retAddr 0], [], h) := by
  have hp : p_B_fail h a ∧ okE (rthr (v_B_fail h a)) := hp
  have hP : P (.inl (some (.int (hx h (v_B_fail h a)).1))) (hx h (v_B_fail h a)).2 := hP
  refine am_Ev_G [158] 20 _ ?_
  show am_Ev m_L_call (WB ++ e1) (RO ++ e2) P (158, [.ref 38, .int w, .int a, .int b, .long m, .retAddr 0, .int C, .int D, .int E, .retAddr 0], [.int a, .ref 38], h)
  refine am_Ev_callH true (i := 47) (cd := d_B_fail 15) (g := g_B_fail (WB ++ e1) (RO ++ e2) [.ref 38, .int a] h) rfl rfl rfl rfl rfl (Nat.le_refl _) (Nat.le_of_ble_eq_true rfl) hp.1 ?_ ?_
  · intro E2 _ hE
    have hE : rthr (v_B_fail h a) = some E2 := hE
    refine hd_mk hs_call (hp.2 E2 hE) ?_
    show P _ (rhpI h (v_B_fail h a))
    cases hv : v_B_fail h a with
    | inl E3 => rw [hv] at hE hP; cases hE; exact hP
    | inr q => rw [hv] at hE; cases hE
  · intro hN
    have hN : rthr (v_B_fail h a) = none := hN rfl
    show am_Ev m_L_call (WB ++ e1) (RO ++ e2) P (161, [.ref 38, .int w, .int a, .int b, .long m, .retAddr 0, .int C, .int D, .int E, .retAddr 0], (rvIW (v_B_fail h a)).toList ++ [], rhpI h (v_B_fail h a))
    cases hv : v_B_fail h a with
    | inl E3 => rw [hv] at hN; cases hN
    | inr q =>
      rw [hv] at hP
      refine am_Ev_G [] 20 _ ?_
      exact hP
set_option maxRecDepth 100000 in
theorem lf_call_9 {e1 e2 : List Sh} {P : AR → HP → Prop} (h : HP) (w a b : Int32) (m : Int64) (C D E : Int32) (hp : p_leaf h 9 a b C D E) (hP : P (.inl (some (.int (v_leaf h 9 a b C D E).1))) (v_leaf h 9 a b C D E).2) : am_Ev m_L_call (WB ++ e1) (RO ++ e2) P (170, [.ref 38, .int w, .int a, .int b, .long m, .retAddr 0, .int C, .int D, .int E, .retAddr 0], [], h) := by
  have hp : True ∧ okE (rthr (v_B_append h a)) := hp
  have hP : P (.inl (some (.int (hx h (v_B_append h a)).1))) (hx h (v_B_append h a)).2 := hP
  refine am_Ev_G [172] 20 _ ?_
  show am_Ev m_L_call (WB ++ e1) (RO ++ e2) P (172, [.ref 38, .int w, .int a, .int b, .long m, .retAddr 0, .int C, .int D, .int E, .retAddr 0], [.int a, .ref 38], h)
  refine am_Ev_callH true (i := 50) (cd := d_B_append 15) (g := g_B_append (WB ++ e1) (RO ++ e2) [.ref 38, .int a] h) rfl rfl rfl rfl rfl (Nat.le_refl _) (Nat.le_of_ble_eq_true rfl) trivial ?_ ?_
  · intro E2 _ hE
    have hE : rthr (v_B_append h a) = some E2 := hE
    refine hd_mk hs_call (hp.2 E2 hE) ?_
    show P _ (rhpI h (v_B_append h a))
    cases hv : v_B_append h a with
    | inl E3 => rw [hv] at hE hP; cases hE; exact hP
    | inr q => rw [hv] at hE; cases hE
  · intro hN
    have hN : rthr (v_B_append h a) = none := hN rfl
    show am_Ev m_L_call (WB ++ e1) (RO ++ e2) P (175, [.ref 38, .int w, .int a, .int b, .long m, .retAddr 0, .int C, .int D, .int E, .retAddr 0], (rvIW (v_B_append h a)).toList ++ [], rhpI h (v_B_append h a))
    cases hv : v_B_append h a with
    | inl E3 => rw [hv] at hN; cases hN
    | inr q =>
      rw [hv] at hP
      refine am_Ev_G [] 20 _ ?_
      exact hP
set_option maxRecDepth 100000 in
theorem lf_call_10 {e1 e2 : List Sh} {P : AR → HP → Prop} (h : HP) (w a b : Int32) (m : Int64) (C D E : Int32) (hp : p_leaf h 10 a b C D E) (hP : P (.inl (some (.int (v_leaf h 10 a b C D E).1))) (v_leaf h 10 a b C D E).2) : am_Ev m_L_call (WB ++ e1) (RO ++ e2) P (184, [.ref 38, .int w, .int a, .int b, .long m, .retAddr 0, .int C, .int D, .int E, .retAddr 0], [], h) := by
  have hp : p_B_load h ∧ okE (rthrU (v_B_load h)) := hp
  have hP : P (.inl (some (.int (hu (v_B_load h)).1))) (hu (v_B_load h)).2 := hP
  refine am_Ev_G [185] 20 _ ?_
  show am_Ev m_L_call (WB ++ e1) (RO ++ e2) P (185, [.ref 38, .int w, .int a, .int b, .long m, .retAddr 0, .int C, .int D, .int E, .retAddr 0], [.ref 38], h)
  refine am_Ev_callH true (i := 53) (cd := d_B_load 15) (g := g_B_load (WB ++ e1) (RO ++ e2) [.ref 38] h) rfl rfl rfl rfl rfl (Nat.le_refl _) (Nat.le_of_ble_eq_true rfl) hp.1 ?_ ?_
  · intro E2 _ hE
    have hE : rthrU (v_B_load h) = some E2 := hE
    refine hd_mk hs_call (hp.2 E2 hE) ?_
    show P _ (rhpU (v_B_load h))
    cases hv : v_B_load h with
    | inl E3 => rw [hv] at hE hP; cases hE; exact hP
    | inr q => rw [hv] at hE; cases hE
  · intro hN
    have hN : rthrU (v_B_load h) = none := hN rfl
    show am_Ev m_L_call (WB ++ e1) (RO ++ e2) P (188, [.ref 38, .int w, .int a, .int b, .long m, .retAddr 0, .int C, .int D, .int E, .retAddr 0], (rvIU (v_B_load h)).toList ++ [], rhpU (v_B_load h))
    cases hv : v_B_load h with
    | inl E3 => rw [hv] at hN; cases hN
    | inr q =>
      rw [hv] at hP
      refine am_Ev_G [] 20 _ ?_
      exact hP
set_option maxRecDepth 100000 in
theorem lf_call_11 {e1 e2 : List Sh} {P : AR → HP → Prop} (h : HP) (w a b : Int32) (m : Int64) (C D E : Int32) (hp : p_leaf h 11 a b C D E) (hP : P (.inl (some (.int (v_leaf h 11 a b C D E).1))) (v_leaf h 11 a b C D E).2) : am_Ev m_L_call (WB ++ e1) (RO ++ e2) P (197, [.ref 38, .int w, .int a, .int b, .long m, .retAddr 0, .int C, .int D, .int E, .retAddr 0], [], h) := by
  have hp : p_B_keep h a ∧ okE (rthr (v_B_keep h a)) := hp
  have hP : P (.inl (some (.int (hx h (v_B_keep h a)).1))) (hx h (v_B_keep h a)).2 := hP
  refine am_Ev_G [199] 20 _ ?_
  show am_Ev m_L_call (WB ++ e1) (RO ++ e2) P (199, [.ref 38, .int w, .int a, .int b, .long m, .retAddr 0, .int C, .int D, .int E, .retAddr 0], [.int a, .ref 38], h)
  refine am_Ev_callH true (i := 56) (cd := d_B_keep 15) (g := g_B_keep (WB ++ e1) (RO ++ e2) [.ref 38, .int a] h) rfl rfl rfl rfl rfl (Nat.le_refl _) (Nat.le_of_ble_eq_true rfl) hp.1 ?_ ?_
  · intro E2 _ hE
    have hE : rthr (v_B_keep h a) = some E2 := hE
    refine hd_mk hs_call (hp.2 E2 hE) ?_
    show P _ (rhpI h (v_B_keep h a))
    cases hv : v_B_keep h a with
    | inl E3 => rw [hv] at hE hP; cases hE; exact hP
    | inr q => rw [hv] at hE; cases hE
  · intro hN
    have hN : rthr (v_B_keep h a) = none := hN rfl
    show am_Ev m_L_call (WB ++ e1) (RO ++ e2) P (202, [.ref 38, .int w, .int a, .int b, .long m, .retAddr 0, .int C, .int D, .int E, .retAddr 0], (rvIW (v_B_keep h a)).toList ++ [], rhpI h (v_B_keep h a))
    cases hv : v_B_keep h a with
    | inl E3 => rw [hv] at hN; cases hN
    | inr q =>
      rw [hv] at hP
      refine am_Ev_G [] 20 _ ?_
      exact hP
set_option maxRecDepth 100000 in
theorem lf_call_12 {e1 e2 : List Sh} {P : AR → HP → Prop} (h : HP) (w a b : Int32) (m : Int64) (C D E : Int32) (hp : p_leaf h 12 a b C D E) (hP : P (.inl (some (.int (v_leaf h 12 a b C D E).1))) (v_leaf h 12 a b C D E).2) : am_Ev m_L_call (WB ++ e1) (RO ++ e2) P (211, [.ref 38, .int w, .int a, .int b, .long m, .retAddr 0, .int C, .int D, .int E, .retAddr 0], [], h) := by
  have hp : p_B_goBack h a ∧ okE (rthr (v_B_goBack h a)) := hp
  have hP : P (.inl (some (.int (hx h (v_B_goBack h a)).1))) (hx h (v_B_goBack h a)).2 := hP
  refine am_Ev_G [213] 20 _ ?_
  show am_Ev m_L_call (WB ++ e1) (RO ++ e2) P (213, [.ref 38, .int w, .int a, .int b, .long m, .retAddr 0, .int C, .int D, .int E, .retAddr 0], [.int a, .ref 38], h)
  refine am_Ev_callH true (i := 59) (cd := d_B_goBack 15) (g := g_B_goBack (WB ++ e1) (RO ++ e2) [.ref 38, .int a] h) rfl rfl rfl rfl rfl (Nat.le_refl _) (Nat.le_of_ble_eq_true rfl) hp.1 ?_ ?_
  · intro E2 _ hE
    have hE : rthr (v_B_goBack h a) = some E2 := hE
    refine hd_mk hs_call (hp.2 E2 hE) ?_
    show P _ (rhpI h (v_B_goBack h a))
    cases hv : v_B_goBack h a with
    | inl E3 => rw [hv] at hE hP; cases hE; exact hP
    | inr q => rw [hv] at hE; cases hE
  · intro hN
    have hN : rthr (v_B_goBack h a) = none := hN rfl
    show am_Ev m_L_call (WB ++ e1) (RO ++ e2) P (216, [.ref 38, .int w, .int a, .int b, .long m, .retAddr 0, .int C, .int D, .int E, .retAddr 0], (rvIW (v_B_goBack h a)).toList ++ [], rhpI h (v_B_goBack h a))
    cases hv : v_B_goBack h a with
    | inl E3 => rw [hv] at hN; cases hN
    | inr q =>
      rw [hv] at hP
      refine am_Ev_G [] 20 _ ?_
      exact hP
set_option maxRecDepth 100000 in
theorem lf_call_13 {e1 e2 : List Sh} {P : AR → HP → Prop} (h : HP) (w a b : Int32) (m : Int64) (C D E : Int32) (hp : p_leaf h 13 a b C D E) (hP : P (.inl (some (.int (v_leaf h 13 a b C D E).1))) (v_leaf h 13 a b C D E).2) : am_Ev m_L_call (WB ++ e1) (RO ++ e2) P (225, [.ref 38, .int w, .int a, .int b, .long m, .retAddr 0, .int C, .int D, .int E, .retAddr 0], [], h) := by
  have hp : p_B_undo h ∧ okE (rthr (v_B_undo h)) := hp
  have hP : P (.inl (some (.int (hx h (v_B_undo h)).1))) (hx h (v_B_undo h)).2 := hP
  refine am_Ev_G [226] 20 _ ?_
  show am_Ev m_L_call (WB ++ e1) (RO ++ e2) P (226, [.ref 38, .int w, .int a, .int b, .long m, .retAddr 0, .int C, .int D, .int E, .retAddr 0], [.ref 38], h)
  refine am_Ev_callH true (i := 62) (cd := d_B_undo 15) (g := g_B_undo (WB ++ e1) (RO ++ e2) [.ref 38] h) rfl rfl rfl rfl rfl (Nat.le_refl _) (Nat.le_of_ble_eq_true rfl) hp.1 ?_ ?_
  · intro E2 _ hE
    have hE : rthr (v_B_undo h) = some E2 := hE
    refine hd_mk hs_call (hp.2 E2 hE) ?_
    show P _ (rhpI h (v_B_undo h))
    cases hv : v_B_undo h with
    | inl E3 => rw [hv] at hE hP; cases hE; exact hP
    | inr q => rw [hv] at hE; cases hE
  · intro hN
    have hN : rthr (v_B_undo h) = none := hN rfl
    show am_Ev m_L_call (WB ++ e1) (RO ++ e2) P (229, [.ref 38, .int w, .int a, .int b, .long m, .retAddr 0, .int C, .int D, .int E, .retAddr 0], (rvIW (v_B_undo h)).toList ++ [], rhpI h (v_B_undo h))
    cases hv : v_B_undo h with
    | inl E3 => rw [hv] at hN; cases hN
    | inr q =>
      rw [hv] at hP
      refine am_Ev_G [] 20 _ ?_
      exact hP
set_option maxRecDepth 100000 in
theorem lf_call_14 {e1 e2 : List Sh} {P : AR → HP → Prop} (h : HP) (w a b : Int32) (m : Int64) (C D E : Int32) (hp : p_leaf h 14 a b C D E) (hP : P (.inl (some (.int (v_leaf h 14 a b C D E).1))) (v_leaf h 14 a b C D E).2) : am_Ev m_L_call (WB ++ e1) (RO ++ e2) P (238, [.ref 38, .int w, .int a, .int b, .long m, .retAddr 0, .int C, .int D, .int E, .retAddr 0], [], h) := by
  have hp : p_B_terminalOf h a b ∧ okE (rthr (v_B_terminalOf h a b)) := hp
  have hP : P (.inl (some (.int (hx h (v_B_terminalOf h a b)).1))) (hx h (v_B_terminalOf h a b)).2 := hP
  refine am_Ev_G [241] 20 _ ?_
  show am_Ev m_L_call (WB ++ e1) (RO ++ e2) P (241, [.ref 38, .int w, .int a, .int b, .long m, .retAddr 0, .int C, .int D, .int E, .retAddr 0], [.int b, .int a, .ref 38], h)
  refine am_Ev_callH true (i := 65) (cd := d_B_terminalOf 15) (g := g_B_terminalOf (WB ++ e1) (RO ++ e2) [.ref 38, .int a, .int b] h) rfl rfl rfl rfl rfl (Nat.le_refl _) (Nat.le_of_ble_eq_true rfl) hp.1 ?_ ?_
  · intro E2 _ hE
    have hE : rthr (v_B_terminalOf h a b) = some E2 := hE
    refine hd_mk hs_call (hp.2 E2 hE) ?_
    show P _ (rhpI h (v_B_terminalOf h a b))
    cases hv : v_B_terminalOf h a b with
    | inl E3 => rw [hv] at hE hP; cases hE; exact hP
    | inr q => rw [hv] at hE; cases hE
  · intro hN
    have hN : rthr (v_B_terminalOf h a b) = none := hN rfl
    show am_Ev m_L_call (WB ++ e1) (RO ++ e2) P (244, [.ref 38, .int w, .int a, .int b, .long m, .retAddr 0, .int C, .int D, .int E, .retAddr 0], (rvIW (v_B_terminalOf h a b)).toList ++ [], rhpI h (v_B_terminalOf h a b))
    cases hv : v_B_terminalOf h a b with
    | inl E3 => rw [hv] at hN; cases hN
    | inr q =>
      rw [hv] at hP
      refine am_Ev_G [] 20 _ ?_
      exact hP
set_option maxRecDepth 100000 in
theorem lf_call_15 {e1 e2 : List Sh} {P : AR → HP → Prop} (h : HP) (w a b : Int32) (m : Int64) (C D E : Int32) (hp : p_leaf h 15 a b C D E) (hP : P (.inl (some (.int (v_leaf h 15 a b C D E).1))) (v_leaf h 15 a b C D E).2) : am_Ev m_L_call (WB ++ e1) (RO ++ e2) P (253, [.ref 38, .int w, .int a, .int b, .long m, .retAddr 0, .int C, .int D, .int E, .retAddr 0], [], h) := by
  have hp : p_B_tripOf h a b ∧ okE (rthr (v_B_tripOf h a b)) := hp
  have hP : P (.inl (some (.int (hy h (v_B_tripOf h a b)).1))) (hy h (v_B_tripOf h a b)).2 := hP
  refine am_Ev_G [256] 20 _ ?_
  show am_Ev m_L_call (WB ++ e1) (RO ++ e2) P (256, [.ref 38, .int w, .int a, .int b, .long m, .retAddr 0, .int C, .int D, .int E, .retAddr 0], [.int b, .int a, .ref 38], h)
  refine am_Ev_callH true (i := 68) (cd := d_B_tripOf 15) (g := g_B_tripOf (WB ++ e1) (RO ++ e2) [.ref 38, .int a, .int b] h) rfl rfl rfl rfl rfl (Nat.le_refl _) (Nat.le_of_ble_eq_true rfl) hp.1 ?_ ?_
  · intro E2 _ hE
    have hE : rthr (v_B_tripOf h a b) = some E2 := hE
    refine hd_mk hs_call (hp.2 E2 hE) ?_
    show P _ (h)
    cases hv : v_B_tripOf h a b with
    | inl E3 => rw [hv] at hE hP; cases hE; exact hP
    | inr q => rw [hv] at hE; cases hE
  · intro hN
    have hN : rthr (v_B_tripOf h a b) = none := hN rfl
    show am_Ev m_L_call (WB ++ e1) (RO ++ e2) P (259, [.ref 38, .int w, .int a, .int b, .long m, .retAddr 0, .int C, .int D, .int E, .retAddr 0], (rvI (v_B_tripOf h a b)).toList ++ [], h)
    cases hv : v_B_tripOf h a b with
    | inl E3 => rw [hv] at hN; cases hN
    | inr q =>
      rw [hv] at hP
      refine am_Ev_G [] 20 _ ?_
      exact hP
set_option maxRecDepth 100000 in
theorem lf_call_16 {e1 e2 : List Sh} {P : AR → HP → Prop} (h : HP) (w a b : Int32) (m : Int64) (C D E : Int32) (hp : p_leaf h 16 a b C D E) (hP : P (.inl (some (.int (v_leaf h 16 a b C D E).1))) (v_leaf h 16 a b C D E).2) : am_Ev m_L_call (WB ++ e1) (RO ++ e2) P (268, [.ref 38, .int w, .int a, .int b, .long m, .retAddr 0, .int C, .int D, .int E, .retAddr 0], [], h) := by
  have hp : p_B_blockOf h a b ∧ okE (rthr (v_B_blockOf h a b)) := hp
  have hP : P (.inl (some (.int (hx h (v_B_blockOf h a b)).1))) (hx h (v_B_blockOf h a b)).2 := hP
  refine am_Ev_G [271] 20 _ ?_
  show am_Ev m_L_call (WB ++ e1) (RO ++ e2) P (271, [.ref 38, .int w, .int a, .int b, .long m, .retAddr 0, .int C, .int D, .int E, .retAddr 0], [.int b, .int a, .ref 38], h)
  refine am_Ev_callH true (i := 71) (cd := d_B_blockOf 15) (g := g_B_blockOf (WB ++ e1) (RO ++ e2) [.ref 38, .int a, .int b] h) rfl rfl rfl rfl rfl (Nat.le_refl _) (Nat.le_of_ble_eq_true rfl) hp.1 ?_ ?_
  · intro E2 _ hE
    have hE : rthr (v_B_blockOf h a b) = some E2 := hE
    refine hd_mk hs_call (hp.2 E2 hE) ?_
    show P _ (rhpI h (v_B_blockOf h a b))
    cases hv : v_B_blockOf h a b with
    | inl E3 => rw [hv] at hE hP; cases hE; exact hP
    | inr q => rw [hv] at hE; cases hE
  · intro hN
    have hN : rthr (v_B_blockOf h a b) = none := hN rfl
    show am_Ev m_L_call (WB ++ e1) (RO ++ e2) P (274, [.ref 38, .int w, .int a, .int b, .long m, .retAddr 0, .int C, .int D, .int E, .retAddr 0], (rvIW (v_B_blockOf h a b)).toList ++ [], rhpI h (v_B_blockOf h a b))
    cases hv : v_B_blockOf h a b with
    | inl E3 => rw [hv] at hN; cases hN
    | inr q =>
      rw [hv] at hP
      refine am_Ev_G [] 20 _ ?_
      exact hP
set_option maxRecDepth 100000 in
theorem lf_call_17 {e1 e2 : List Sh} {P : AR → HP → Prop} (h : HP) (w a b : Int32) (m : Int64) (C D E : Int32) (hp : p_leaf h 17 a b C D E) (hP : P (.inl (some (.int (v_leaf h 17 a b C D E).1))) (v_leaf h 17 a b C D E).2) : am_Ev m_L_call (WB ++ e1) (RO ++ e2) P (283, [.ref 38, .int w, .int a, .int b, .long m, .retAddr 0, .int C, .int D, .int E, .retAddr 0], [], h) := by
  have hp : p_B_duty h a b E ∧ okE (rthr (v_B_duty h a b E)) := hp
  have hP : P (.inl (some (.int (hy h (v_B_duty h a b E)).1))) (hy h (v_B_duty h a b E)).2 := hP
  refine am_Ev_G [288] 20 _ ?_
  show am_Ev m_L_call (WB ++ e1) (RO ++ e2) P (288, [.ref 38, .int w, .int a, .int b, .long m, .retAddr 0, .int C, .int D, .int E, .retAddr 0], [.int E, .int b, .int a, .ref 38], h)
  refine am_Ev_callH true (i := 74) (cd := d_B_duty 15) (g := g_B_duty (WB ++ e1) (RO ++ e2) [.ref 38, .int a, .int b, .int E] h) rfl rfl rfl rfl rfl (Nat.le_refl _) (Nat.le_of_ble_eq_true rfl) hp.1 ?_ ?_
  · intro E2 _ hE
    have hE : rthr (v_B_duty h a b E) = some E2 := hE
    refine hd_mk hs_call (hp.2 E2 hE) ?_
    show P _ (h)
    cases hv : v_B_duty h a b E with
    | inl E3 => rw [hv] at hE hP; cases hE; exact hP
    | inr q => rw [hv] at hE; cases hE
  · intro hN
    have hN : rthr (v_B_duty h a b E) = none := hN rfl
    show am_Ev m_L_call (WB ++ e1) (RO ++ e2) P (291, [.ref 38, .int w, .int a, .int b, .long m, .retAddr 0, .int C, .int D, .int E, .retAddr 0], (rvI (v_B_duty h a b E)).toList ++ [], h)
    cases hv : v_B_duty h a b E with
    | inl E3 => rw [hv] at hN; cases hN
    | inr q =>
      rw [hv] at hP
      refine am_Ev_G [] 20 _ ?_
      exact hP
set_option maxRecDepth 100000 in
theorem lf_call_18 {e1 e2 : List Sh} {P : AR → HP → Prop} (h : HP) (w a b : Int32) (m : Int64) (C D E : Int32) (hp : p_leaf h 18 a b C D E) (hP : P (.inl (some (.int (v_leaf h 18 a b C D E).1))) (v_leaf h 18 a b C D E).2) : am_Ev m_L_call (WB ++ e1) (RO ++ e2) P (300, [.ref 38, .int w, .int a, .int b, .long m, .retAddr 0, .int C, .int D, .int E, .retAddr 0], [], h) := by
  have hp : p_B_count h a ∧ okE (rthr (v_B_count h a)) := hp
  have hP : P (.inl (some (.int (hx h (v_B_count h a)).1))) (hx h (v_B_count h a)).2 := hP
  refine am_Ev_G [302] 20 _ ?_
  show am_Ev m_L_call (WB ++ e1) (RO ++ e2) P (302, [.ref 38, .int w, .int a, .int b, .long m, .retAddr 0, .int C, .int D, .int E, .retAddr 0], [.int a, .ref 38], h)
  refine am_Ev_callH true (i := 78) (cd := d_B_count 15) (g := g_B_count (WB ++ e1) (RO ++ e2) [.ref 38, .int a] h) rfl rfl rfl rfl rfl (Nat.le_refl _) (Nat.le_of_ble_eq_true rfl) hp.1 ?_ ?_
  · intro E2 _ hE
    have hE : rthr (v_B_count h a) = some E2 := hE
    refine hd_mk hs_call (hp.2 E2 hE) ?_
    show P _ (rhpI h (v_B_count h a))
    cases hv : v_B_count h a with
    | inl E3 => rw [hv] at hE hP; cases hE; exact hP
    | inr q => rw [hv] at hE; cases hE
  · intro hN
    have hN : rthr (v_B_count h a) = none := hN rfl
    show am_Ev m_L_call (WB ++ e1) (RO ++ e2) P (305, [.ref 38, .int w, .int a, .int b, .long m, .retAddr 0, .int C, .int D, .int E, .retAddr 0], (rvIW (v_B_count h a)).toList ++ [], rhpI h (v_B_count h a))
    cases hv : v_B_count h a with
    | inl E3 => rw [hv] at hN; cases hN
    | inr q =>
      rw [hv] at hP
      refine am_Ev_G [] 20 _ ?_
      exact hP
set_option maxRecDepth 100000 in
theorem lf_call_19 {e1 e2 : List Sh} {P : AR → HP → Prop} (h : HP) (w a b : Int32) (m : Int64) (C D E : Int32) (hp : p_leaf h 19 a b C D E) (hP : P (.inl (some (.int (v_leaf h 19 a b C D E).1))) (v_leaf h 19 a b C D E).2) : am_Ev m_L_call (WB ++ e1) (RO ++ e2) P (314, [.ref 38, .int w, .int a, .int b, .long m, .retAddr 0, .int C, .int D, .int E, .retAddr 0], [], h) := by
  have hp : True ∧ okE (rthr (v_B_setting h a)) := hp
  have hP : P (.inl (some (.int (hy h (v_B_setting h a)).1))) (hy h (v_B_setting h a)).2 := hP
  refine am_Ev_G [316] 20 _ ?_
  show am_Ev m_L_call (WB ++ e1) (RO ++ e2) P (316, [.ref 38, .int w, .int a, .int b, .long m, .retAddr 0, .int C, .int D, .int E, .retAddr 0], [.int a, .ref 38], h)
  refine am_Ev_callH true (i := 81) (cd := d_B_setting 15) (g := g_B_setting (WB ++ e1) (RO ++ e2) [.ref 38, .int a] h) rfl rfl rfl rfl rfl (Nat.le_refl _) (Nat.le_of_ble_eq_true rfl) trivial ?_ ?_
  · intro E2 _ hE
    have hE : rthr (v_B_setting h a) = some E2 := hE
    refine hd_mk hs_call (hp.2 E2 hE) ?_
    show P _ (h)
    cases hv : v_B_setting h a with
    | inl E3 => rw [hv] at hE hP; cases hE; exact hP
    | inr q => rw [hv] at hE; cases hE
  · intro hN
    have hN : rthr (v_B_setting h a) = none := hN rfl
    show am_Ev m_L_call (WB ++ e1) (RO ++ e2) P (319, [.ref 38, .int w, .int a, .int b, .long m, .retAddr 0, .int C, .int D, .int E, .retAddr 0], (rvI (v_B_setting h a)).toList ++ [], h)
    cases hv : v_B_setting h a with
    | inl E3 => rw [hv] at hN; cases hN
    | inr q =>
      rw [hv] at hP
      refine am_Ev_G [] 20 _ ?_
      exact hP
set_option maxRecDepth 100000 in
theorem lf_call_20 {e1 e2 : List Sh} {P : AR → HP → Prop} (h : HP) (w a b : Int32) (m : Int64) (C D E : Int32) (hp : p_leaf h 20 a b C D E) (hP : P (.inl (some (.int (v_leaf h 20 a b C D E).1))) (v_leaf h 20 a b C D E).2) : am_Ev m_L_call (WB ++ e1) (RO ++ e2) P (328, [.ref 38, .int w, .int a, .int b, .long m, .retAddr 0, .int C, .int D, .int E, .retAddr 0], [], h) := by
  have hp : True ∧ okE (rthr (v_B_whyNot h a b)) := hp
  have hP : P (.inl (some (.int (hy h (v_B_whyNot h a b)).1))) (hy h (v_B_whyNot h a b)).2 := hP
  refine am_Ev_G [331] 20 _ ?_
  show am_Ev m_L_call (WB ++ e1) (RO ++ e2) P (331, [.ref 38, .int w, .int a, .int b, .long m, .retAddr 0, .int C, .int D, .int E, .retAddr 0], [.int b, .int a, .ref 38], h)
  refine am_Ev_callH true (i := 84) (cd := d_B_whyNot 15) (g := g_B_whyNot (WB ++ e1) (RO ++ e2) [.ref 38, .int a, .int b] h) rfl rfl rfl rfl rfl (Nat.le_refl _) (Nat.le_of_ble_eq_true rfl) trivial ?_ ?_
  · intro E2 _ hE
    have hE : rthr (v_B_whyNot h a b) = some E2 := hE
    refine hd_mk hs_call (hp.2 E2 hE) ?_
    show P _ (h)
    cases hv : v_B_whyNot h a b with
    | inl E3 => rw [hv] at hE hP; cases hE; exact hP
    | inr q => rw [hv] at hE; cases hE
  · intro hN
    have hN : rthr (v_B_whyNot h a b) = none := hN rfl
    show am_Ev m_L_call (WB ++ e1) (RO ++ e2) P (334, [.ref 38, .int w, .int a, .int b, .long m, .retAddr 0, .int C, .int D, .int E, .retAddr 0], (rvI (v_B_whyNot h a b)).toList ++ [], h)
    cases hv : v_B_whyNot h a b with
    | inl E3 => rw [hv] at hN; cases hN
    | inr q =>
      rw [hv] at hP
      refine am_Ev_G [] 20 _ ?_
      exact hP
set_option maxRecDepth 100000 in
theorem lf_call_21 {e1 e2 : List Sh} {P : AR → HP → Prop} (h : HP) (w a b : Int32) (m : Int64) (C D E : Int32) (hp : p_leaf h 21 a b C D E) (hP : P (.inl (some (.int (v_leaf h 21 a b C D E).1))) (v_leaf h 21 a b C D E).2) : am_Ev m_L_call (WB ++ e1) (RO ++ e2) P (343, [.ref 38, .int w, .int a, .int b, .long m, .retAddr 0, .int C, .int D, .int E, .retAddr 0], [], h) := by
  have hp : p_B_ifTrip h a b C D E ∧ okE (rthr (v_B_ifTrip h a b C D E)) := hp
  have hP : P (.inl (some (.int (hx h (v_B_ifTrip h a b C D E)).1))) (hx h (v_B_ifTrip h a b C D E)).2 := hP
  refine am_Ev_G [352] 20 _ ?_
  show am_Ev m_L_call (WB ++ e1) (RO ++ e2) P (352, [.ref 38, .int w, .int a, .int b, .long m, .retAddr 0, .int C, .int D, .int E, .retAddr 0], [.int E, .int D, .int C, .int b, .int a, .ref 38], h)
  refine am_Ev_callH true (i := 87) (cd := d_B_ifTrip 15) (g := g_B_ifTrip (WB ++ e1) (RO ++ e2) [.ref 38, .int a, .int b, .int C, .int D, .int E] h) rfl rfl rfl rfl rfl (Nat.le_refl _) (Nat.le_of_ble_eq_true rfl) hp.1 ?_ ?_
  · intro E2 _ hE
    have hE : rthr (v_B_ifTrip h a b C D E) = some E2 := hE
    refine hd_mk hs_call (hp.2 E2 hE) ?_
    show P _ (rhpI h (v_B_ifTrip h a b C D E))
    cases hv : v_B_ifTrip h a b C D E with
    | inl E3 => rw [hv] at hE hP; cases hE; exact hP
    | inr q => rw [hv] at hE; cases hE
  · intro hN
    have hN : rthr (v_B_ifTrip h a b C D E) = none := hN rfl
    show am_Ev m_L_call (WB ++ e1) (RO ++ e2) P (355, [.ref 38, .int w, .int a, .int b, .long m, .retAddr 0, .int C, .int D, .int E, .retAddr 0], (rvIW (v_B_ifTrip h a b C D E)).toList ++ [], rhpI h (v_B_ifTrip h a b C D E))
    cases hv : v_B_ifTrip h a b C D E with
    | inl E3 => rw [hv] at hN; cases hN
    | inr q =>
      rw [hv] at hP
      refine am_Ev_G [] 20 _ ?_
      exact hP
set_option maxRecDepth 100000 in
theorem lf_call_22 {e1 e2 : List Sh} {P : AR → HP → Prop} (h : HP) (w a b : Int32) (m : Int64) (C D E : Int32) (hp : p_leaf h 22 a b C D E) (hP : P (.inl (some (.int (v_leaf h 22 a b C D E).1))) (v_leaf h 22 a b C D E).2) : am_Ev m_L_call (WB ++ e1) (RO ++ e2) P (364, [.ref 38, .int w, .int a, .int b, .long m, .retAddr 0, .int C, .int D, .int E, .retAddr 0], [], h) := by
  have hp : p_B_bestTime h a b ∧ okE (rthr (v_B_bestTime h a b)) := hp
  have hP : P (.inl (some (.int (hx h (v_B_bestTime h a b)).1))) (hx h (v_B_bestTime h a b)).2 := hP
  refine am_Ev_G [367] 20 _ ?_
  show am_Ev m_L_call (WB ++ e1) (RO ++ e2) P (367, [.ref 38, .int w, .int a, .int b, .long m, .retAddr 0, .int C, .int D, .int E, .retAddr 0], [.int b, .int a, .ref 38], h)
  refine am_Ev_callH true (i := 90) (cd := d_B_bestTime 15) (g := g_B_bestTime (WB ++ e1) (RO ++ e2) [.ref 38, .int a, .int b] h) rfl rfl rfl rfl rfl (Nat.le_refl _) (Nat.le_of_ble_eq_true rfl) hp.1 ?_ ?_
  · intro E2 _ hE
    have hE : rthr (v_B_bestTime h a b) = some E2 := hE
    refine hd_mk hs_call (hp.2 E2 hE) ?_
    show P _ (rhpI h (v_B_bestTime h a b))
    cases hv : v_B_bestTime h a b with
    | inl E3 => rw [hv] at hE hP; cases hE; exact hP
    | inr q => rw [hv] at hE; cases hE
  · intro hN
    have hN : rthr (v_B_bestTime h a b) = none := hN rfl
    show am_Ev m_L_call (WB ++ e1) (RO ++ e2) P (370, [.ref 38, .int w, .int a, .int b, .long m, .retAddr 0, .int C, .int D, .int E, .retAddr 0], (rvIW (v_B_bestTime h a b)).toList ++ [], rhpI h (v_B_bestTime h a b))
    cases hv : v_B_bestTime h a b with
    | inl E3 => rw [hv] at hN; cases hN
    | inr q =>
      rw [hv] at hP
      refine am_Ev_G [] 20 _ ?_
      exact hP
set_option maxRecDepth 100000 in
theorem lf_call_23 {e1 e2 : List Sh} {P : AR → HP → Prop} (h : HP) (w a b : Int32) (m : Int64) (C D E : Int32) (hp : p_leaf h 23 a b C D E) (hP : P (.inl (some (.int (v_leaf h 23 a b C D E).1))) (v_leaf h 23 a b C D E).2) : am_Ev m_L_call (WB ++ e1) (RO ++ e2) P (373, [.ref 38, .int w, .int a, .int b, .long m, .retAddr 0, .int C, .int D, .int E, .retAddr 0], [], h) := by
  have hp : p_B_ifFailed h a ∧ okE (rthr (v_B_ifFailed h a)) := hp
  have hP : P (.inl (some (.int (hy h (v_B_ifFailed h a)).1))) (hy h (v_B_ifFailed h a)).2 := hP
  refine am_Ev_G [375] 20 _ ?_
  show am_Ev m_L_call (WB ++ e1) (RO ++ e2) P (375, [.ref 38, .int w, .int a, .int b, .long m, .retAddr 0, .int C, .int D, .int E, .retAddr 0], [.int a, .ref 38], h)
  refine am_Ev_callH true (i := 93) (cd := d_B_ifFailed 15) (g := g_B_ifFailed (WB ++ e1) (RO ++ e2) [.ref 38, .int a] h) rfl rfl rfl rfl rfl (Nat.le_refl _) (Nat.le_of_ble_eq_true rfl) hp.1 ?_ ?_
  · intro E2 _ hE
    have hE : rthr (v_B_ifFailed h a) = some E2 := hE
    refine hd_mk hs_call (hp.2 E2 hE) ?_
    show P _ (h)
    cases hv : v_B_ifFailed h a with
    | inl E3 => rw [hv] at hE hP; cases hE; exact hP
    | inr q => rw [hv] at hE; cases hE
  · intro hN
    have hN : rthr (v_B_ifFailed h a) = none := hN rfl
    show am_Ev m_L_call (WB ++ e1) (RO ++ e2) P (378, [.ref 38, .int w, .int a, .int b, .long m, .retAddr 0, .int C, .int D, .int E, .retAddr 0], (rvI (v_B_ifFailed h a)).toList ++ [], h)
    cases hv : v_B_ifFailed h a with
    | inl E3 => rw [hv] at hN; cases hN
    | inr q =>
      rw [hv] at hP
      refine am_Ev_G [] 20 _ ?_
      exact hP
set_option maxRecDepth 100000 in
theorem ev_call2 {e1 e2 : List Sh} {P : AR → HP → Prop} (h : HP) (w a b : Int32) (m : Int64) (C D E : Int32) (hp : p_leaf h (cj w) a b C D E) (hP : P (.inl (some (.int (v_leaf h (cj w) a b C D E).1))) (v_leaf h (cj w) a b C D E).2) : am_Ev m_L_call (WB ++ e1) (RO ++ e2) P (35, [.ref 38, .int w, .int a, .int b, .long m, .retAddr 0, .int C, .int D, .int E, .retAddr 0], [], h) := by
  refine am_Ev_G [39, 48] 20 _ ?_
  show (¬ w = 0 → am_Ev m_L_call (WB ++ e1) (RO ++ e2) P (48, [.ref 38, .int w, .int a, .int b, .long m, .retAddr 0, .int C, .int D, .int E, .retAddr 0], [], h)) ∧ (w = 0 → am_Ev m_L_call (WB ++ e1) (RO ++ e2) P (39, [.ref 38, .int w, .int a, .int b, .long m, .retAddr 0, .int C, .int D, .int E, .retAddr 0], [], h))
  refine ⟨fun n0 => ?_, fun c => by
    have e : cj w = 0 := by rw [c]; decide +kernel
    rw [e] at hp hP
    exact lf_call_0 h w a b m C D E hp hP⟩
  refine am_Ev_G [53, 61] 20 _ ?_
  show (¬ w = 1 → am_Ev m_L_call (WB ++ e1) (RO ++ e2) P (61, [.ref 38, .int w, .int a, .int b, .long m, .retAddr 0, .int C, .int D, .int E, .retAddr 0], [], h)) ∧ (w = 1 → am_Ev m_L_call (WB ++ e1) (RO ++ e2) P (53, [.ref 38, .int w, .int a, .int b, .long m, .retAddr 0, .int C, .int D, .int E, .retAddr 0], [], h))
  refine ⟨fun n1 => ?_, fun c => by
    have e : cj w = 1 := by rw [c]; decide +kernel
    rw [e] at hp hP
    exact lf_call_1 h w a b m C D E hp hP⟩
  refine am_Ev_G [66, 81] 20 _ ?_
  show (¬ w = 2 → am_Ev m_L_call (WB ++ e1) (RO ++ e2) P (81, [.ref 38, .int w, .int a, .int b, .long m, .retAddr 0, .int C, .int D, .int E, .retAddr 0], [], h)) ∧ (w = 2 → am_Ev m_L_call (WB ++ e1) (RO ++ e2) P (66, [.ref 38, .int w, .int a, .int b, .long m, .retAddr 0, .int C, .int D, .int E, .retAddr 0], [], h))
  refine ⟨fun n2 => ?_, fun c => by
    have e : cj w = 2 := by rw [c]; decide +kernel
    rw [e] at hp hP
    exact lf_call_2 h w a b m C D E hp hP⟩
  refine am_Ev_G [86, 95] 20 _ ?_
  show (¬ w = 3 → am_Ev m_L_call (WB ++ e1) (RO ++ e2) P (95, [.ref 38, .int w, .int a, .int b, .long m, .retAddr 0, .int C, .int D, .int E, .retAddr 0], [], h)) ∧ (w = 3 → am_Ev m_L_call (WB ++ e1) (RO ++ e2) P (86, [.ref 38, .int w, .int a, .int b, .long m, .retAddr 0, .int C, .int D, .int E, .retAddr 0], [], h))
  refine ⟨fun n3 => ?_, fun c => by
    have e : cj w = 3 := by rw [c]; decide +kernel
    rw [e] at hp hP
    exact lf_call_3 h w a b m C D E hp hP⟩
  refine am_Ev_G [100, 109] 20 _ ?_
  show (¬ w = 4 → am_Ev m_L_call (WB ++ e1) (RO ++ e2) P (109, [.ref 38, .int w, .int a, .int b, .long m, .retAddr 0, .int C, .int D, .int E, .retAddr 0], [], h)) ∧ (w = 4 → am_Ev m_L_call (WB ++ e1) (RO ++ e2) P (100, [.ref 38, .int w, .int a, .int b, .long m, .retAddr 0, .int C, .int D, .int E, .retAddr 0], [], h))
  refine ⟨fun n4 => ?_, fun c => by
    have e : cj w = 4 := by rw [c]; decide +kernel
    rw [e] at hp hP
    exact lf_call_4 h w a b m C D E hp hP⟩
  refine am_Ev_G [114, 123] 20 _ ?_
  show (¬ w = 5 → am_Ev m_L_call (WB ++ e1) (RO ++ e2) P (123, [.ref 38, .int w, .int a, .int b, .long m, .retAddr 0, .int C, .int D, .int E, .retAddr 0], [], h)) ∧ (w = 5 → am_Ev m_L_call (WB ++ e1) (RO ++ e2) P (114, [.ref 38, .int w, .int a, .int b, .long m, .retAddr 0, .int C, .int D, .int E, .retAddr 0], [], h))
  refine ⟨fun n5 => ?_, fun c => by
    have e : cj w = 5 := by rw [c]; decide +kernel
    rw [e] at hp hP
    exact lf_call_5 h w a b m C D E hp hP⟩
  refine am_Ev_G [129, 137] 20 _ ?_
  show (¬ w = 6 → am_Ev m_L_call (WB ++ e1) (RO ++ e2) P (137, [.ref 38, .int w, .int a, .int b, .long m, .retAddr 0, .int C, .int D, .int E, .retAddr 0], [], h)) ∧ (w = 6 → am_Ev m_L_call (WB ++ e1) (RO ++ e2) P (129, [.ref 38, .int w, .int a, .int b, .long m, .retAddr 0, .int C, .int D, .int E, .retAddr 0], [], h))
  refine ⟨fun n6 => ?_, fun c => by
    have e : cj w = 6 := by rw [c]; decide +kernel
    rw [e] at hp hP
    exact lf_call_6 h w a b m C D E hp hP⟩
  refine am_Ev_G [143, 150] 20 _ ?_
  show (¬ w = 7 → am_Ev m_L_call (WB ++ e1) (RO ++ e2) P (150, [.ref 38, .int w, .int a, .int b, .long m, .retAddr 0, .int C, .int D, .int E, .retAddr 0], [], h)) ∧ (w = 7 → am_Ev m_L_call (WB ++ e1) (RO ++ e2) P (143, [.ref 38, .int w, .int a, .int b, .long m, .retAddr 0, .int C, .int D, .int E, .retAddr 0], [], h))
  refine ⟨fun n7 => ?_, fun c => by
    have e : cj w = 7 := by rw [c]; decide +kernel
    rw [e] at hp hP
    exact lf_call_7 h w a b m C D E hp hP⟩
  refine am_Ev_G [156, 164] 20 _ ?_
  show (¬ w = 8 → am_Ev m_L_call (WB ++ e1) (RO ++ e2) P (164, [.ref 38, .int w, .int a, .int b, .long m, .retAddr 0, .int C, .int D, .int E, .retAddr 0], [], h)) ∧ (w = 8 → am_Ev m_L_call (WB ++ e1) (RO ++ e2) P (156, [.ref 38, .int w, .int a, .int b, .long m, .retAddr 0, .int C, .int D, .int E, .retAddr 0], [], h))
  refine ⟨fun n8 => ?_, fun c => by
    have e : cj w = 8 := by rw [c]; decide +kernel
    rw [e] at hp hP
    exact lf_call_8 h w a b m C D E hp hP⟩
  refine am_Ev_G [170, 178] 20 _ ?_
  show (¬ w = 9 → am_Ev m_L_call (WB ++ e1) (RO ++ e2) P (178, [.ref 38, .int w, .int a, .int b, .long m, .retAddr 0, .int C, .int D, .int E, .retAddr 0], [], h)) ∧ (w = 9 → am_Ev m_L_call (WB ++ e1) (RO ++ e2) P (170, [.ref 38, .int w, .int a, .int b, .long m, .retAddr 0, .int C, .int D, .int E, .retAddr 0], [], h))
  refine ⟨fun n9 => ?_, fun c => by
    have e : cj w = 9 := by rw [c]; decide +kernel
    rw [e] at hp hP
    exact lf_call_9 h w a b m C D E hp hP⟩
  refine am_Ev_G [184, 191] 20 _ ?_
  show (¬ w = 10 → am_Ev m_L_call (WB ++ e1) (RO ++ e2) P (191, [.ref 38, .int w, .int a, .int b, .long m, .retAddr 0, .int C, .int D, .int E, .retAddr 0], [], h)) ∧ (w = 10 → am_Ev m_L_call (WB ++ e1) (RO ++ e2) P (184, [.ref 38, .int w, .int a, .int b, .long m, .retAddr 0, .int C, .int D, .int E, .retAddr 0], [], h))
  refine ⟨fun n10 => ?_, fun c => by
    have e : cj w = 10 := by rw [c]; decide +kernel
    rw [e] at hp hP
    exact lf_call_10 h w a b m C D E hp hP⟩
  refine am_Ev_G [197, 205] 20 _ ?_
  show (¬ w = 11 → am_Ev m_L_call (WB ++ e1) (RO ++ e2) P (205, [.ref 38, .int w, .int a, .int b, .long m, .retAddr 0, .int C, .int D, .int E, .retAddr 0], [], h)) ∧ (w = 11 → am_Ev m_L_call (WB ++ e1) (RO ++ e2) P (197, [.ref 38, .int w, .int a, .int b, .long m, .retAddr 0, .int C, .int D, .int E, .retAddr 0], [], h))
  refine ⟨fun n11 => ?_, fun c => by
    have e : cj w = 11 := by rw [c]; decide +kernel
    rw [e] at hp hP
    exact lf_call_11 h w a b m C D E hp hP⟩
  refine am_Ev_G [211, 219] 20 _ ?_
  show (¬ w = 12 → am_Ev m_L_call (WB ++ e1) (RO ++ e2) P (219, [.ref 38, .int w, .int a, .int b, .long m, .retAddr 0, .int C, .int D, .int E, .retAddr 0], [], h)) ∧ (w = 12 → am_Ev m_L_call (WB ++ e1) (RO ++ e2) P (211, [.ref 38, .int w, .int a, .int b, .long m, .retAddr 0, .int C, .int D, .int E, .retAddr 0], [], h))
  refine ⟨fun n12 => ?_, fun c => by
    have e : cj w = 12 := by rw [c]; decide +kernel
    rw [e] at hp hP
    exact lf_call_12 h w a b m C D E hp hP⟩
  refine am_Ev_G [225, 232] 20 _ ?_
  show (¬ w = 13 → am_Ev m_L_call (WB ++ e1) (RO ++ e2) P (232, [.ref 38, .int w, .int a, .int b, .long m, .retAddr 0, .int C, .int D, .int E, .retAddr 0], [], h)) ∧ (w = 13 → am_Ev m_L_call (WB ++ e1) (RO ++ e2) P (225, [.ref 38, .int w, .int a, .int b, .long m, .retAddr 0, .int C, .int D, .int E, .retAddr 0], [], h))
  refine ⟨fun n13 => ?_, fun c => by
    have e : cj w = 13 := by rw [c]; decide +kernel
    rw [e] at hp hP
    exact lf_call_13 h w a b m C D E hp hP⟩
  refine am_Ev_G [238, 247] 20 _ ?_
  show (¬ w = 14 → am_Ev m_L_call (WB ++ e1) (RO ++ e2) P (247, [.ref 38, .int w, .int a, .int b, .long m, .retAddr 0, .int C, .int D, .int E, .retAddr 0], [], h)) ∧ (w = 14 → am_Ev m_L_call (WB ++ e1) (RO ++ e2) P (238, [.ref 38, .int w, .int a, .int b, .long m, .retAddr 0, .int C, .int D, .int E, .retAddr 0], [], h))
  refine ⟨fun n14 => ?_, fun c => by
    have e : cj w = 14 := by rw [c]; decide +kernel
    rw [e] at hp hP
    exact lf_call_14 h w a b m C D E hp hP⟩
  refine am_Ev_G [253, 262] 20 _ ?_
  show (¬ w = 15 → am_Ev m_L_call (WB ++ e1) (RO ++ e2) P (262, [.ref 38, .int w, .int a, .int b, .long m, .retAddr 0, .int C, .int D, .int E, .retAddr 0], [], h)) ∧ (w = 15 → am_Ev m_L_call (WB ++ e1) (RO ++ e2) P (253, [.ref 38, .int w, .int a, .int b, .long m, .retAddr 0, .int C, .int D, .int E, .retAddr 0], [], h))
  refine ⟨fun n15 => ?_, fun c => by
    have e : cj w = 15 := by rw [c]; decide +kernel
    rw [e] at hp hP
    exact lf_call_15 h w a b m C D E hp hP⟩
  refine am_Ev_G [268, 277] 20 _ ?_
  show (¬ w = 16 → am_Ev m_L_call (WB ++ e1) (RO ++ e2) P (277, [.ref 38, .int w, .int a, .int b, .long m, .retAddr 0, .int C, .int D, .int E, .retAddr 0], [], h)) ∧ (w = 16 → am_Ev m_L_call (WB ++ e1) (RO ++ e2) P (268, [.ref 38, .int w, .int a, .int b, .long m, .retAddr 0, .int C, .int D, .int E, .retAddr 0], [], h))
  refine ⟨fun n16 => ?_, fun c => by
    have e : cj w = 16 := by rw [c]; decide +kernel
    rw [e] at hp hP
    exact lf_call_16 h w a b m C D E hp hP⟩
  refine am_Ev_G [283, 294] 20 _ ?_
  show (¬ w = 17 → am_Ev m_L_call (WB ++ e1) (RO ++ e2) P (294, [.ref 38, .int w, .int a, .int b, .long m, .retAddr 0, .int C, .int D, .int E, .retAddr 0], [], h)) ∧ (w = 17 → am_Ev m_L_call (WB ++ e1) (RO ++ e2) P (283, [.ref 38, .int w, .int a, .int b, .long m, .retAddr 0, .int C, .int D, .int E, .retAddr 0], [], h))
  refine ⟨fun n17 => ?_, fun c => by
    have e : cj w = 17 := by rw [c]; decide +kernel
    rw [e] at hp hP
    exact lf_call_17 h w a b m C D E hp hP⟩
  refine am_Ev_G [300, 308] 20 _ ?_
  show (¬ w = 18 → am_Ev m_L_call (WB ++ e1) (RO ++ e2) P (308, [.ref 38, .int w, .int a, .int b, .long m, .retAddr 0, .int C, .int D, .int E, .retAddr 0], [], h)) ∧ (w = 18 → am_Ev m_L_call (WB ++ e1) (RO ++ e2) P (300, [.ref 38, .int w, .int a, .int b, .long m, .retAddr 0, .int C, .int D, .int E, .retAddr 0], [], h))
  refine ⟨fun n18 => ?_, fun c => by
    have e : cj w = 18 := by rw [c]; decide +kernel
    rw [e] at hp hP
    exact lf_call_18 h w a b m C D E hp hP⟩
  refine am_Ev_G [314, 322] 20 _ ?_
  show (¬ w = 19 → am_Ev m_L_call (WB ++ e1) (RO ++ e2) P (322, [.ref 38, .int w, .int a, .int b, .long m, .retAddr 0, .int C, .int D, .int E, .retAddr 0], [], h)) ∧ (w = 19 → am_Ev m_L_call (WB ++ e1) (RO ++ e2) P (314, [.ref 38, .int w, .int a, .int b, .long m, .retAddr 0, .int C, .int D, .int E, .retAddr 0], [], h))
  refine ⟨fun n19 => ?_, fun c => by
    have e : cj w = 19 := by rw [c]; decide +kernel
    rw [e] at hp hP
    exact lf_call_19 h w a b m C D E hp hP⟩
  refine am_Ev_G [328, 337] 20 _ ?_
  show (¬ w = 20 → am_Ev m_L_call (WB ++ e1) (RO ++ e2) P (337, [.ref 38, .int w, .int a, .int b, .long m, .retAddr 0, .int C, .int D, .int E, .retAddr 0], [], h)) ∧ (w = 20 → am_Ev m_L_call (WB ++ e1) (RO ++ e2) P (328, [.ref 38, .int w, .int a, .int b, .long m, .retAddr 0, .int C, .int D, .int E, .retAddr 0], [], h))
  refine ⟨fun n20 => ?_, fun c => by
    have e : cj w = 20 := by rw [c]; decide +kernel
    rw [e] at hp hP
    exact lf_call_20 h w a b m C D E hp hP⟩
  refine am_Ev_G [343, 358] 20 _ ?_
  show (¬ w = 21 → am_Ev m_L_call (WB ++ e1) (RO ++ e2) P (358, [.ref 38, .int w, .int a, .int b, .long m, .retAddr 0, .int C, .int D, .int E, .retAddr 0], [], h)) ∧ (w = 21 → am_Ev m_L_call (WB ++ e1) (RO ++ e2) P (343, [.ref 38, .int w, .int a, .int b, .long m, .retAddr 0, .int C, .int D, .int E, .retAddr 0], [], h))
  refine ⟨fun n21 => ?_, fun c => by
    have e : cj w = 21 := by rw [c]; decide +kernel
    rw [e] at hp hP
    exact lf_call_21 h w a b m C D E hp hP⟩
  refine am_Ev_G [364, 373] 20 _ ?_
  show (¬ w = 22 → am_Ev m_L_call (WB ++ e1) (RO ++ e2) P (373, [.ref 38, .int w, .int a, .int b, .long m, .retAddr 0, .int C, .int D, .int E, .retAddr 0], [], h)) ∧ (w = 22 → am_Ev m_L_call (WB ++ e1) (RO ++ e2) P (364, [.ref 38, .int w, .int a, .int b, .long m, .retAddr 0, .int C, .int D, .int E, .retAddr 0], [], h))
  refine ⟨fun n22 => ?_, fun c => by
    have e : cj w = 22 := by rw [c]; decide +kernel
    rw [e] at hp hP
    exact lf_call_22 h w a b m C D E hp hP⟩
  have e : cj w = 23 := by unfold cj; rw [if_neg n0, if_neg n1, if_neg n2, if_neg n3, if_neg n4, if_neg n5, if_neg n6, if_neg n7, if_neg n8, if_neg n9, if_neg n10, if_neg n11, if_neg n12, if_neg n13, if_neg n14, if_neg n15, if_neg n16, if_neg n17, if_neg n18, if_neg n19, if_neg n20, if_neg n21, if_neg n22]
  rw [e] at hp hP
  exact lf_call_23 h w a b m C D E hp hP
set_option maxRecDepth 100000 in
theorem ev_L_call {e1 e2 : List Sh} {P : AR → HP → Prop} (h : HP) (w a b : Int32) (m : Int64) (hp : p_L_call h w a b m) (hP : P (.inl (some (.int (v_L_call h w a b m).1))) (v_L_call h w a b m).2) : am_Ev m_L_call (WB ++ e1) (RO ++ e2) P (0, [.ref 38, .int w, .int a, .int b, .long m, .retAddr 0, .retAddr 0, .retAddr 0, .retAddr 0, .retAddr 0], [], h) := by
  refine am_Ev_G [35] 40 _ ?_
  refine ⟨by decide +kernel, by decide +kernel, by decide +kernel, by decide +kernel, by decide +kernel, ?_⟩
  exact ev_call2 h w a b m (mc1 m) (mc2 m) (mc3 m) hp hP
theorem hd_call : ∀ pc x, am_lk (m_hdl m_L_call) pc = some x → 35 ≤ pc ∧ pc < 378 ∧ x = hs_call.map (fun q => (q.1, q.2.1)) := fun pc x h => by
  have h1 : ∀ q ∈ m_hdl m_L_call, 35 ≤ q.1 ∧ q.1 < 378 := by decide +kernel
  have h2 : ∀ q ∈ m_hdl m_L_call, q.2 = hl_call := am_c (rfl) (am_c (rfl) (am_c (rfl) (am_c (rfl) (am_c (rfl) (am_c (rfl) (am_c (rfl) (am_c (rfl) (am_c (rfl) (am_c (rfl) (am_c (rfl) (am_c (rfl) (am_c (rfl) (am_c (rfl) (am_c (rfl) (am_c (rfl) (am_c (rfl) (am_c (rfl) (am_c (rfl) (am_c (rfl) (am_c (rfl) (am_c (rfl) (am_c (rfl) (am_c (rfl) am_n)))))))))))))))))))))))
  have h3 := am_lk_mem h
  exact ⟨(h1 _ h3).1, (h1 _ h3).2, h2 _ h3⟩
theorem ok_L_call {l : Launch} (hl : l.stackTraces = false) (e1 e2 : List Sh) : am_Ok l (WB ++ e1) (RO ++ e2) d_L_call := by
  refine am_metQ (M := m_L_call) (hs := hs_call) (pcS := 35) (pcE := 378) rfl rfl pf_L_call cu_L_call rfl rfl rfl rfl rfl rfl (fun _ => rfl) rfl hsQ_call (by decide +kernel) hd_call ⟨chk_L_call, am_n, (am_c (lk_L_17) (am_c (lk_L_23) (am_c (lk_L_27) (am_c (lk_L_31) (am_c (lk_L_34) (am_c (lk_L_37) (am_c (lk_L_40) (am_c (lk_L_43) (am_c (lk_L_47) (am_c (lk_L_50) (am_c (lk_L_53) (am_c (lk_L_56) (am_c (lk_L_59) (am_c (lk_L_62) (am_c (lk_L_65) (am_c (lk_L_68) (am_c (lk_L_71) (am_c (lk_L_74) (am_c (lk_L_78) (am_c (lk_L_81) (am_c (lk_L_84) (am_c (lk_L_87) (am_c (lk_L_90) (am_c (lk_L_93) am_n)))))))))))))))))))))))), (am_c (ck_L_9) (am_c (ck_L_11) (am_c (ck_L_13) (am_c (ck_L_15) am_n)))), am_n⟩ (am_c (ok_B_layover hl e1 _ 15) (am_c (ok_B_relief hl e1 _ 15) (am_c (ok_B_trip hl e1 _ 15) (am_c (ok_B_shift hl e1 _ 15) (am_c (ok_B_set hl e1 _ 15) (am_c (ok_B_follow hl e1 _ 15) (am_c (ok_B_part hl e1 _ 15) (am_c (ok_B_blockAll hl e1 _ 15) (am_c (ok_B_fail hl e1 _ 15) (am_c (ok_B_append hl e1 _ 15) (am_c (ok_B_load hl e1 _ 15) (am_c (ok_B_keep hl e1 _ 15) (am_c (ok_B_goBack hl e1 _ 15) (am_c (ok_B_undo hl e1 _ 15) (am_c (ok_B_terminalOf hl e1 _ 15) (am_c (ok_B_tripOf hl e1 _ 15) (am_c (ok_B_blockOf hl e1 _ 15) (am_c (ok_B_duty hl e1 _ 15) (am_c (ok_B_count hl e1 _ 15) (am_c (ok_B_setting hl e1 _ 15) (am_c (ok_B_whyNot hl e1 _ 15) (am_c (ok_B_ifTrip hl e1 _ 15) (am_c (ok_B_bestTime hl e1 _ 15) (am_c (ok_B_ifFailed hl e1 _ 15) am_n)))))))))))))))))))))))) rfl ?_ ?_
  · intro as h _
    show g_thr (g_L_call (WB ++ e1) (RO ++ e2) as h) = none
    unfold g_L_call
    split <;> rfl
  · intro as h
    show g_ok (g_L_call (WB ++ e1) (RO ++ e2) as h) = true → g_pre (g_L_call (WB ++ e1) (RO ++ e2) as h) → _ ∧ am_Ev m_L_call (WB ++ e1) (RO ++ e2) (am_eqC (g_L_call (WB ++ e1) (RO ++ e2) as h)) (0, am_ent as 10, [], h)
    unfold g_L_call
    split
    · rename_i o w a b m
      intro hc hp
      obtain rfl := am_beq hc
      exact ⟨Nat.le_of_ble_eq_true rfl, ev_L_call h w a b m hp ⟨rfl, rfl⟩⟩
    · exact fun z => nomatch z
end
