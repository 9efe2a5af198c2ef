theorem dL_law__0 : decode cL_law_ 0 = .ok (.new 8, 3) := by decide +kernel
theorem dL_law__3 : decode cL_law_ 3 = .ok (.dup, 1) := by decide +kernel
theorem dL_law__4 : decode cL_law_ 4 = .ok (.invokespecial 128, 3) := by decide +kernel
theorem dL_law__7 : decode cL_law_ 7 = .ok (.astore_n 1, 1) := by decide +kernel
theorem dL_law__8 : decode cL_law_ 8 = .ok (.new 129, 3) := by decide +kernel
theorem dL_law__11 : decode cL_law_ 11 = .ok (.dup, 1) := by decide +kernel
theorem dL_law__12 : decode cL_law_ 12 = .ok (.invokespecial 131, 3) := by decide +kernel
theorem dL_law__15 : decode cL_law_ 15 = .ok (.astore_n 2, 1) := by decide +kernel
theorem dL_law__16 : decode cL_law_ 16 = .ok (.iconst 1, 1) := by decide +kernel
theorem dL_law__17 : decode cL_law_ 17 = .ok (.newarray .long, 2) := by decide +kernel
theorem dL_law__19 : decode cL_law_ 19 = .ok (.astore_n 3, 1) := by decide +kernel
theorem dL_law__20 : decode cL_law_ 20 = .ok (.iconst 0, 1) := by decide +kernel
theorem dL_law__21 : decode cL_law_ 21 = .ok (.istore 4, 2) := by decide +kernel
theorem dL_law__23 : decode cL_law_ 23 = .ok (.iload 4, 2) := by decide +kernel
theorem dL_law__25 : decode cL_law_ 25 = .ok (.aload_n 0, 1) := by decide +kernel
theorem dL_law__26 : decode cL_law_ 26 = .ok (.arraylength, 1) := by decide +kernel
theorem dL_law__27 : decode cL_law_ 27 = .ok (.bipush 6, 2) := by decide +kernel
theorem dL_law__29 : decode cL_law_ 29 = .ok (.isub, 1) := by decide +kernel
theorem dL_law__30 : decode cL_law_ 30 = .ok (.if_icmp .gt 2910, 3) := by decide +kernel
theorem dL_law__33 : decode cL_law_ 33 = .ok (.aload_n 0, 1) := by decide +kernel
theorem dL_law__34 : decode cL_law_ 34 = .ok (.iload 4, 2) := by decide +kernel
theorem dL_law__36 : decode cL_law_ 36 = .ok (.iaload, 1) := by decide +kernel
theorem dL_law__37 : decode cL_law_ 37 = .ok (.bipush 63, 2) := by decide +kernel
theorem dL_law__39 : decode cL_law_ 39 = .ok (.iand, 1) := by decide +kernel
theorem dL_law__40 : decode cL_law_ 40 = .ok (.tableswitch 2894 0 41 #[184, 257, 282, 326, 370, 383, 463, 519, 579, 659, 727, 831, 887, 955, 1035, 1115, 1183, 1263, 1331, 1411, 1531, 1599, 1667, 1735, 1803, 1883, 1939, 1952, 2072, 2164, 2217, 2337, 2441, 2521, 2569, 2652, 2708, 2776, 2789, 2845, 2856, 2869], 184) := by decide +kernel
theorem dL_law__224 : decode cL_law_ 224 = .ok (.aload_n 1, 1) := by decide +kernel
theorem dL_law__225 : decode cL_law_ 225 = .ok (.aload_n 0, 1) := by decide +kernel
theorem dL_law__226 : decode cL_law_ 226 = .ok (.iload 4, 2) := by decide +kernel
theorem dL_law__228 : decode cL_law_ 228 = .ok (.iconst 1, 1) := by decide +kernel
theorem dL_law__229 : decode cL_law_ 229 = .ok (.iadd, 1) := by decide +kernel
theorem dL_law__230 : decode cL_law_ 230 = .ok (.iaload, 1) := by decide +kernel
theorem dL_law__231 : decode cL_law_ 231 = .ok (.aload_n 0, 1) := by decide +kernel
theorem dL_law__232 : decode cL_law_ 232 = .ok (.iload 4, 2) := by decide +kernel
theorem dL_law__234 : decode cL_law_ 234 = .ok (.iconst 2, 1) := by decide +kernel
theorem dL_law__235 : decode cL_law_ 235 = .ok (.iadd, 1) := by decide +kernel
theorem dL_law__236 : decode cL_law_ 236 = .ok (.iaload, 1) := by decide +kernel
theorem dL_law__237 : decode cL_law_ 237 = .ok (.aload_n 0, 1) := by decide +kernel
theorem dL_law__238 : decode cL_law_ 238 = .ok (.iload 4, 2) := by decide +kernel
theorem dL_law__240 : decode cL_law_ 240 = .ok (.iconst 3, 1) := by decide +kernel
theorem dL_law__241 : decode cL_law_ 241 = .ok (.iadd, 1) := by decide +kernel
theorem dL_law__242 : decode cL_law_ 242 = .ok (.iaload, 1) := by decide +kernel
theorem dL_law__243 : decode cL_law_ 243 = .ok (.aload_n 0, 1) := by decide +kernel
theorem dL_law__244 : decode cL_law_ 244 = .ok (.iload 4, 2) := by decide +kernel
theorem dL_law__246 : decode cL_law_ 246 = .ok (.iconst 4, 1) := by decide +kernel
theorem dL_law__247 : decode cL_law_ 247 = .ok (.iadd, 1) := by decide +kernel
theorem dL_law__248 : decode cL_law_ 248 = .ok (.iaload, 1) := by decide +kernel
theorem dL_law__249 : decode cL_law_ 249 = .ok (.aload_n 0, 1) := by decide +kernel
theorem dL_law__250 : decode cL_law_ 250 = .ok (.iload 4, 2) := by decide +kernel
theorem dL_law__252 : decode cL_law_ 252 = .ok (.iconst 5, 1) := by decide +kernel
theorem dL_law__253 : decode cL_law_ 253 = .ok (.iadd, 1) := by decide +kernel
theorem dL_law__254 : decode cL_law_ 254 = .ok (.iaload, 1) := by decide +kernel
theorem dL_law__255 : decode cL_law_ 255 = .ok (.invokevirtual 132, 3) := by decide +kernel
theorem dL_law__258 : decode cL_law_ 258 = .ok (.aload_n 2, 1) := by decide +kernel
theorem dL_law__259 : decode cL_law_ 259 = .ok (.aload_n 0, 1) := by decide +kernel
theorem dL_law__260 : decode cL_law_ 260 = .ok (.iload 4, 2) := by decide +kernel
theorem dL_law__262 : decode cL_law_ 262 = .ok (.iconst 1, 1) := by decide +kernel
theorem dL_law__263 : decode cL_law_ 263 = .ok (.iadd, 1) := by decide +kernel
theorem dL_law__264 : decode cL_law_ 264 = .ok (.iaload, 1) := by decide +kernel
theorem dL_law__265 : decode cL_law_ 265 = .ok (.aload_n 0, 1) := by decide +kernel
theorem dL_law__266 : decode cL_law_ 266 = .ok (.iload 4, 2) := by decide +kernel
theorem dL_law__268 : decode cL_law_ 268 = .ok (.iconst 2, 1) := by decide +kernel
theorem dL_law__269 : decode cL_law_ 269 = .ok (.iadd, 1) := by decide +kernel
theorem dL_law__270 : decode cL_law_ 270 = .ok (.iaload, 1) := by decide +kernel
theorem dL_law__271 : decode cL_law_ 271 = .ok (.aload_n 0, 1) := by decide +kernel
theorem dL_law__272 : decode cL_law_ 272 = .ok (.iload 4, 2) := by decide +kernel
theorem dL_law__274 : decode cL_law_ 274 = .ok (.iconst 3, 1) := by decide +kernel
theorem dL_law__275 : decode cL_law_ 275 = .ok (.iadd, 1) := by decide +kernel
theorem dL_law__276 : decode cL_law_ 276 = .ok (.iaload, 1) := by decide +kernel
theorem dL_law__277 : decode cL_law_ 277 = .ok (.aload_n 0, 1) := by decide +kernel
theorem dL_law__278 : decode cL_law_ 278 = .ok (.iload 4, 2) := by decide +kernel
theorem dL_law__280 : decode cL_law_ 280 = .ok (.iconst 4, 1) := by decide +kernel
theorem dL_law__281 : decode cL_law_ 281 = .ok (.iadd, 1) := by decide +kernel
theorem dL_law__282 : decode cL_law_ 282 = .ok (.iaload, 1) := by decide +kernel
theorem dL_law__283 : decode cL_law_ 283 = .ok (.aload_n 0, 1) := by decide +kernel
theorem dL_law__284 : decode cL_law_ 284 = .ok (.iload 4, 2) := by decide +kernel
theorem dL_law__286 : decode cL_law_ 286 = .ok (.iconst 5, 1) := by decide +kernel
theorem dL_law__287 : decode cL_law_ 287 = .ok (.iadd, 1) := by decide +kernel
theorem dL_law__288 : decode cL_law_ 288 = .ok (.iaload, 1) := by decide +kernel
theorem dL_law__289 : decode cL_law_ 289 = .ok (.invokevirtual 135, 3) := by decide +kernel
theorem dL_law__292 : decode cL_law_ 292 = .ok (.if_icmp .eq 2642, 3) := by decide +kernel
theorem dL_law__295 : decode cL_law_ 295 = .ok (.iconst 0, 1) := by decide +kernel
theorem dL_law__296 : decode cL_law_ 296 = .ok (.ireturn, 1) := by decide +kernel
theorem dL_law__297 : decode cL_law_ 297 = .ok (.aload_n 1, 1) := by decide +kernel
theorem dL_law__298 : decode cL_law_ 298 = .ok (.aload_n 0, 1) := by decide +kernel
theorem dL_law__299 : decode cL_law_ 299 = .ok (.iload 4, 2) := by decide +kernel
theorem dL_law__301 : decode cL_law_ 301 = .ok (.iconst 1, 1) := by decide +kernel
theorem dL_law__302 : decode cL_law_ 302 = .ok (.iadd, 1) := by decide +kernel
theorem dL_law__303 : decode cL_law_ 303 = .ok (.iaload, 1) := by decide +kernel
theorem dL_law__304 : decode cL_law_ 304 = .ok (.invokevirtual 136, 3) := by decide +kernel
theorem dL_law__307 : decode cL_law_ 307 = .ok (.aload_n 2, 1) := by decide +kernel
theorem dL_law__308 : decode cL_law_ 308 = .ok (.aload_n 0, 1) := by decide +kernel
theorem dL_law__309 : decode cL_law_ 309 = .ok (.iload 4, 2) := by decide +kernel
theorem dL_law__311 : decode cL_law_ 311 = .ok (.iconst 1, 1) := by decide +kernel
theorem dL_law__312 : decode cL_law_ 312 = .ok (.iadd, 1) := by decide +kernel
theorem dL_law__313 : decode cL_law_ 313 = .ok (.iaload, 1) := by decide +kernel
theorem dL_law__314 : decode cL_law_ 314 = .ok (.invokevirtual 140, 3) := by decide +kernel
theorem dL_law__317 : decode cL_law_ 317 = .ok (.if_icmp .eq 2617, 3) := by decide +kernel
theorem dL_law__320 : decode cL_law_ 320 = .ok (.iconst 0, 1) := by decide +kernel
theorem dL_law__321 : decode cL_law_ 321 = .ok (.ireturn, 1) := by decide +kernel
theorem dL_law__322 : decode cL_law_ 322 = .ok (.aload_n 1, 1) := by decide +kernel
theorem dL_law__323 : decode cL_law_ 323 = .ok (.aload_n 3, 1) := by decide +kernel
theorem dL_law__324 : decode cL_law_ 324 = .ok (.invokestatic 141, 3) := by decide +kernel
theorem dL_law__327 : decode cL_law_ 327 = .ok (.istore 5, 2) := by decide +kernel
theorem dL_law__329 : decode cL_law_ 329 = .ok (.aload_n 2, 1) := by decide +kernel
theorem dL_law__330 : decode cL_law_ 330 = .ok (.invokevirtual 146, 3) := by decide +kernel
theorem dL_law__333 : decode cL_law_ 333 = .ok (.istore 6, 2) := by decide +kernel
theorem dL_law__335 : decode cL_law_ 335 = .ok (.aload_n 2, 1) := by decide +kernel
theorem dL_law__336 : decode cL_law_ 336 = .ok (.invokevirtual 147, 3) := by decide +kernel
theorem dL_law__339 : decode cL_law_ 339 = .ok (.iload 5, 2) := by decide +kernel
theorem dL_law__341 : decode cL_law_ 341 = .ok (.if_icmp .eq 5, 3) := by decide +kernel
theorem dL_law__344 : decode cL_law_ 344 = .ok (.iconst 0, 1) := by decide +kernel
theorem dL_law__345 : decode cL_law_ 345 = .ok (.ireturn, 1) := by decide +kernel
theorem dL_law__346 : decode cL_law_ 346 = .ok (.iload 5, 2) := by decide +kernel
theorem dL_law__348 : decode cL_law_ 348 = .ok (.ifCond .ne 15, 3) := by decide +kernel
theorem dL_law__351 : decode cL_law_ 351 = .ok (.aload_n 3, 1) := by decide +kernel
theorem dL_law__352 : decode cL_law_ 352 = .ok (.iconst 0, 1) := by decide +kernel
theorem dL_law__353 : decode cL_law_ 353 = .ok (.laload, 1) := by decide +kernel
theorem dL_law__354 : decode cL_law_ 354 = .ok (.iload 6, 2) := by decide +kernel
theorem dL_law__356 : decode cL_law_ 356 = .ok (.i2l, 1) := by decide +kernel
theorem dL_law__357 : decode cL_law_ 357 = .ok (.lcmp, 1) := by decide +kernel
theorem dL_law__358 : decode cL_law_ 358 = .ok (.ifCond .eq 5, 3) := by decide +kernel
theorem dL_law__361 : decode cL_law_ 361 = .ok (.iconst 0, 1) := by decide +kernel
theorem dL_law__362 : decode cL_law_ 362 = .ok (.ireturn, 1) := by decide +kernel
theorem dL_law__363 : decode cL_law_ 363 = .ok (.goto 2571, 3) := by decide +kernel
theorem dL_law__366 : decode cL_law_ 366 = .ok (.aload_n 1, 1) := by decide +kernel
theorem dL_law__367 : decode cL_law_ 367 = .ok (.aload_n 3, 1) := by decide +kernel
theorem dL_law__368 : decode cL_law_ 368 = .ok (.invokestatic 150, 3) := by decide +kernel
theorem dL_law__371 : decode cL_law_ 371 = .ok (.istore 5, 2) := by decide +kernel
theorem dL_law__373 : decode cL_law_ 373 = .ok (.aload_n 2, 1) := by decide +kernel
theorem dL_law__374 : decode cL_law_ 374 = .ok (.invokevirtual 152, 3) := by decide +kernel
theorem dL_law__377 : decode cL_law_ 377 = .ok (.istore 6, 2) := by decide +kernel
theorem dL_law__379 : decode cL_law_ 379 = .ok (.aload_n 2, 1) := by decide +kernel
theorem dL_law__380 : decode cL_law_ 380 = .ok (.invokevirtual 147, 3) := by decide +kernel
theorem dL_law__383 : decode cL_law_ 383 = .ok (.iload 5, 2) := by decide +kernel
theorem dL_law__385 : decode cL_law_ 385 = .ok (.if_icmp .eq 5, 3) := by decide +kernel
theorem dL_law__388 : decode cL_law_ 388 = .ok (.iconst 0, 1) := by decide +kernel
theorem dL_law__389 : decode cL_law_ 389 = .ok (.ireturn, 1) := by decide +kernel
theorem dL_law__390 : decode cL_law_ 390 = .ok (.iload 5, 2) := by decide +kernel
theorem dL_law__392 : decode cL_law_ 392 = .ok (.ifCond .ne 15, 3) := by decide +kernel
theorem dL_law__395 : decode cL_law_ 395 = .ok (.aload_n 3, 1) := by decide +kernel
theorem dL_law__396 : decode cL_law_ 396 = .ok (.iconst 0, 1) := by decide +kernel
theorem dL_law__397 : decode cL_law_ 397 = .ok (.laload, 1) := by decide +kernel
theorem dL_law__398 : decode cL_law_ 398 = .ok (.iload 6, 2) := by decide +kernel
theorem dL_law__400 : decode cL_law_ 400 = .ok (.i2l, 1) := by decide +kernel
theorem dL_law__401 : decode cL_law_ 401 = .ok (.lcmp, 1) := by decide +kernel
theorem dL_law__402 : decode cL_law_ 402 = .ok (.ifCond .eq 5, 3) := by decide +kernel
theorem dL_law__405 : decode cL_law_ 405 = .ok (.iconst 0, 1) := by decide +kernel
theorem dL_law__406 : decode cL_law_ 406 = .ok (.ireturn, 1) := by decide +kernel
theorem dL_law__407 : decode cL_law_ 407 = .ok (.goto 2527, 3) := by decide +kernel
theorem dL_law__410 : decode cL_law_ 410 = .ok (.aload_n 1, 1) := by decide +kernel
theorem dL_law__411 : decode cL_law_ 411 = .ok (.invokevirtual 153, 3) := by decide +kernel
theorem dL_law__414 : decode cL_law_ 414 = .ok (.aload_n 2, 1) := by decide +kernel
theorem dL_law__415 : decode cL_law_ 415 = .ok (.invokevirtual 156, 3) := by decide +kernel
theorem dL_law__418 : decode cL_law_ 418 = .ok (.if_icmp .eq 2516, 3) := by decide +kernel
theorem dL_law__421 : decode cL_law_ 421 = .ok (.iconst 0, 1) := by decide +kernel
theorem dL_law__422 : decode cL_law_ 422 = .ok (.ireturn, 1) := by decide +kernel
theorem dL_law__423 : decode cL_law_ 423 = .ok (.aload_n 1, 1) := by decide +kernel
theorem dL_law__424 : decode cL_law_ 424 = .ok (.aload_n 0, 1) := by decide +kernel
theorem dL_law__425 : decode cL_law_ 425 = .ok (.iload 4, 2) := by decide +kernel
theorem dL_law__427 : decode cL_law_ 427 = .ok (.iconst 1, 1) := by decide +kernel
theorem dL_law__428 : decode cL_law_ 428 = .ok (.iadd, 1) := by decide +kernel
theorem dL_law__429 : decode cL_law_ 429 = .ok (.iaload, 1) := by decide +kernel
theorem dL_law__430 : decode cL_law_ 430 = .ok (.aload_n 0, 1) := by decide +kernel
theorem dL_law__431 : decode cL_law_ 431 = .ok (.iload 4, 2) := by decide +kernel
theorem dL_law__433 : decode cL_law_ 433 = .ok (.iconst 2, 1) := by decide +kernel
theorem dL_law__434 : decode cL_law_ 434 = .ok (.iadd, 1) := by decide +kernel
theorem dL_law__435 : decode cL_law_ 435 = .ok (.iaload, 1) := by decide +kernel
theorem dL_law__436 : decode cL_law_ 436 = .ok (.aload_n 0, 1) := by decide +kernel
theorem dL_law__437 : decode cL_law_ 437 = .ok (.iload 4, 2) := by decide +kernel
theorem dL_law__439 : decode cL_law_ 439 = .ok (.iconst 3, 1) := by decide +kernel
theorem dL_law__440 : decode cL_law_ 440 = .ok (.iadd, 1) := by decide +kernel
theorem dL_law__441 : decode cL_law_ 441 = .ok (.iaload, 1) := by decide +kernel
theorem dL_law__442 : decode cL_law_ 442 = .ok (.aload_n 3, 1) := by decide +kernel
theorem dL_law__443 : decode cL_law_ 443 = .ok (.invokestatic 157, 3) := by decide +kernel
theorem dL_law__446 : decode cL_law_ 446 = .ok (.istore 5, 2) := by decide +kernel
theorem dL_law__448 : decode cL_law_ 448 = .ok (.aload_n 2, 1) := by decide +kernel
theorem dL_law__449 : decode cL_law_ 449 = .ok (.aload_n 0, 1) := by decide +kernel
theorem dL_law__450 : decode cL_law_ 450 = .ok (.iload 4, 2) := by decide +kernel
theorem dL_law__452 : decode cL_law_ 452 = .ok (.iconst 1, 1) := by decide +kernel
theorem dL_law__453 : decode cL_law_ 453 = .ok (.iadd, 1) := by decide +kernel
theorem dL_law__454 : decode cL_law_ 454 = .ok (.iaload, 1) := by decide +kernel
theorem dL_law__455 : decode cL_law_ 455 = .ok (.aload_n 0, 1) := by decide +kernel
theorem dL_law__456 : decode cL_law_ 456 = .ok (.iload 4, 2) := by decide +kernel
theorem dL_law__458 : decode cL_law_ 458 = .ok (.iconst 2, 1) := by decide +kernel
theorem dL_law__459 : decode cL_law_ 459 = .ok (.iadd, 1) := by decide +kernel
theorem dL_law__460 : decode cL_law_ 460 = .ok (.iaload, 1) := by decide +kernel
theorem dL_law__461 : decode cL_law_ 461 = .ok (.aload_n 0, 1) := by decide +kernel
theorem dL_law__462 : decode cL_law_ 462 = .ok (.iload 4, 2) := by decide +kernel
theorem dL_law__464 : decode cL_law_ 464 = .ok (.iconst 3, 1) := by decide +kernel
theorem dL_law__465 : decode cL_law_ 465 = .ok (.iadd, 1) := by decide +kernel
theorem dL_law__466 : decode cL_law_ 466 = .ok (.iaload, 1) := by decide +kernel
theorem dL_law__467 : decode cL_law_ 467 = .ok (.invokevirtual 160, 3) := by decide +kernel
theorem dL_law__470 : decode cL_law_ 470 = .ok (.istore 6, 2) := by decide +kernel
theorem dL_law__472 : decode cL_law_ 472 = .ok (.aload_n 2, 1) := by decide +kernel
theorem dL_law__473 : decode cL_law_ 473 = .ok (.invokevirtual 147, 3) := by decide +kernel
theorem dL_law__476 : decode cL_law_ 476 = .ok (.iload 5, 2) := by decide +kernel
theorem dL_law__478 : decode cL_law_ 478 = .ok (.if_icmp .eq 5, 3) := by decide +kernel
theorem dL_law__481 : decode cL_law_ 481 = .ok (.iconst 0, 1) := by decide +kernel
theorem dL_law__482 : decode cL_law_ 482 = .ok (.ireturn, 1) := by decide +kernel
theorem dL_law__483 : decode cL_law_ 483 = .ok (.iload 5, 2) := by decide +kernel
theorem dL_law__485 : decode cL_law_ 485 = .ok (.ifCond .ne 15, 3) := by decide +kernel
theorem dL_law__488 : decode cL_law_ 488 = .ok (.aload_n 3, 1) := by decide +kernel
theorem dL_law__489 : decode cL_law_ 489 = .ok (.iconst 0, 1) := by decide +kernel
theorem dL_law__490 : decode cL_law_ 490 = .ok (.laload, 1) := by decide +kernel
theorem dL_law__491 : decode cL_law_ 491 = .ok (.iload 6, 2) := by decide +kernel
theorem dL_law__493 : decode cL_law_ 493 = .ok (.i2l, 1) := by decide +kernel
theorem dL_law__494 : decode cL_law_ 494 = .ok (.lcmp, 1) := by decide +kernel
theorem dL_law__495 : decode cL_law_ 495 = .ok (.ifCond .eq 5, 3) := by decide +kernel
theorem dL_law__498 : decode cL_law_ 498 = .ok (.iconst 0, 1) := by decide +kernel
theorem dL_law__499 : decode cL_law_ 499 = .ok (.ireturn, 1) := by decide +kernel
theorem dL_law__500 : decode cL_law_ 500 = .ok (.goto 2434, 3) := by decide +kernel
theorem dL_law__503 : decode cL_law_ 503 = .ok (.aload_n 1, 1) := by decide +kernel
theorem dL_law__504 : decode cL_law_ 504 = .ok (.aload_n 0, 1) := by decide +kernel
theorem dL_law__505 : decode cL_law_ 505 = .ok (.iload 4, 2) := by decide +kernel
theorem dL_law__507 : decode cL_law_ 507 = .ok (.iconst 1, 1) := by decide +kernel
theorem dL_law__508 : decode cL_law_ 508 = .ok (.iadd, 1) := by decide +kernel
theorem dL_law__509 : decode cL_law_ 509 = .ok (.iaload, 1) := by decide +kernel
theorem dL_law__510 : decode cL_law_ 510 = .ok (.aload_n 3, 1) := by decide +kernel
theorem dL_law__511 : decode cL_law_ 511 = .ok (.invokestatic 161, 3) := by decide +kernel
theorem dL_law__514 : decode cL_law_ 514 = .ok (.istore 5, 2) := by decide +kernel
theorem dL_law__516 : decode cL_law_ 516 = .ok (.aload_n 2, 1) := by decide +kernel
theorem dL_law__517 : decode cL_law_ 517 = .ok (.aload_n 0, 1) := by decide +kernel
theorem dL_law__518 : decode cL_law_ 518 = .ok (.iload 4, 2) := by decide +kernel
theorem dL_law__520 : decode cL_law_ 520 = .ok (.iconst 1, 1) := by decide +kernel
theorem dL_law__521 : decode cL_law_ 521 = .ok (.iadd, 1) := by decide +kernel
theorem dL_law__522 : decode cL_law_ 522 = .ok (.iaload, 1) := by decide +kernel
theorem dL_law__523 : decode cL_law_ 523 = .ok (.invokevirtual 164, 3) := by decide +kernel
theorem dL_law__526 : decode cL_law_ 526 = .ok (.istore 6, 2) := by decide +kernel
theorem dL_law__528 : decode cL_law_ 528 = .ok (.aload_n 2, 1) := by decide +kernel
theorem dL_law__529 : decode cL_law_ 529 = .ok (.invokevirtual 147, 3) := by decide +kernel
theorem dL_law__532 : decode cL_law_ 532 = .ok (.iload 5, 2) := by decide +kernel
theorem dL_law__534 : decode cL_law_ 534 = .ok (.if_icmp .eq 5, 3) := by decide +kernel
theorem dL_law__537 : decode cL_law_ 537 = .ok (.iconst 0, 1) := by decide +kernel
theorem dL_law__538 : decode cL_law_ 538 = .ok (.ireturn, 1) := by decide +kernel
theorem dL_law__539 : decode cL_law_ 539 = .ok (.iload 5, 2) := by decide +kernel
theorem dL_law__541 : decode cL_law_ 541 = .ok (.ifCond .ne 15, 3) := by decide +kernel
theorem dL_law__544 : decode cL_law_ 544 = .ok (.aload_n 3, 1) := by decide +kernel
theorem dL_law__545 : decode cL_law_ 545 = .ok (.iconst 0, 1) := by decide +kernel
theorem dL_law__546 : decode cL_law_ 546 = .ok (.laload, 1) := by decide +kernel
theorem dL_law__547 : decode cL_law_ 547 = .ok (.iload 6, 2) := by decide +kernel
theorem dL_law__549 : decode cL_law_ 549 = .ok (.i2l, 1) := by decide +kernel
theorem dL_law__550 : decode cL_law_ 550 = .ok (.lcmp, 1) := by decide +kernel
theorem dL_law__551 : decode cL_law_ 551 = .ok (.ifCond .eq 5, 3) := by decide +kernel
theorem dL_law__554 : decode cL_law_ 554 = .ok (.iconst 0, 1) := by decide +kernel
theorem dL_law__555 : decode cL_law_ 555 = .ok (.ireturn, 1) := by decide +kernel
theorem dL_law__556 : decode cL_law_ 556 = .ok (.goto 2378, 3) := by decide +kernel
theorem dL_law__559 : decode cL_law_ 559 = .ok (.aload_n 1, 1) := by decide +kernel
theorem dL_law__560 : decode cL_law_ 560 = .ok (.aload_n 0, 1) := by decide +kernel
theorem dL_law__561 : decode cL_law_ 561 = .ok (.iload 4, 2) := by decide +kernel
theorem dL_law__563 : decode cL_law_ 563 = .ok (.iconst 1, 1) := by decide +kernel
theorem dL_law__564 : decode cL_law_ 564 = .ok (.iadd, 1) := by decide +kernel
theorem dL_law__565 : decode cL_law_ 565 = .ok (.iaload, 1) := by decide +kernel
theorem dL_law__566 : decode cL_law_ 566 = .ok (.aload_n 0, 1) := by decide +kernel
theorem dL_law__567 : decode cL_law_ 567 = .ok (.iload 4, 2) := by decide +kernel
theorem dL_law__569 : decode cL_law_ 569 = .ok (.iconst 2, 1) := by decide +kernel
theorem dL_law__570 : decode cL_law_ 570 = .ok (.iadd, 1) := by decide +kernel
theorem dL_law__571 : decode cL_law_ 571 = .ok (.iaload, 1) := by decide +kernel
theorem dL_law__572 : decode cL_law_ 572 = .ok (.aload_n 0, 1) := by decide +kernel
theorem dL_law__573 : decode cL_law_ 573 = .ok (.iload 4, 2) := by decide +kernel
theorem dL_law__575 : decode cL_law_ 575 = .ok (.iconst 3, 1) := by decide +kernel
theorem dL_law__576 : decode cL_law_ 576 = .ok (.iadd, 1) := by decide +kernel
theorem dL_law__577 : decode cL_law_ 577 = .ok (.iaload, 1) := by decide +kernel
theorem dL_law__578 : decode cL_law_ 578 = .ok (.invokestatic 165, 3) := by decide +kernel
theorem dL_law__581 : decode cL_law_ 581 = .ok (.istore 5, 2) := by decide +kernel
theorem dL_law__583 : decode cL_law_ 583 = .ok (.aload_n 2, 1) := by decide +kernel
theorem dL_law__584 : decode cL_law_ 584 = .ok (.aload_n 0, 1) := by decide +kernel
theorem dL_law__585 : decode cL_law_ 585 = .ok (.iload 4, 2) := by decide +kernel
theorem dL_law__587 : decode cL_law_ 587 = .ok (.iconst 1, 1) := by decide +kernel
theorem dL_law__588 : decode cL_law_ 588 = .ok (.iadd, 1) := by decide +kernel
theorem dL_law__589 : decode cL_law_ 589 = .ok (.iaload, 1) := by decide +kernel
theorem dL_law__590 : decode cL_law_ 590 = .ok (.aload_n 0, 1) := by decide +kernel
theorem dL_law__591 : decode cL_law_ 591 = .ok (.iload 4, 2) := by decide +kernel
theorem dL_law__593 : decode cL_law_ 593 = .ok (.iconst 2, 1) := by decide +kernel
theorem dL_law__594 : decode cL_law_ 594 = .ok (.iadd, 1) := by decide +kernel
theorem dL_law__595 : decode cL_law_ 595 = .ok (.iaload, 1) := by decide +kernel
theorem dL_law__596 : decode cL_law_ 596 = .ok (.aload_n 0, 1) := by decide +kernel
theorem dL_law__597 : decode cL_law_ 597 = .ok (.iload 4, 2) := by decide +kernel
theorem dL_law__599 : decode cL_law_ 599 = .ok (.iconst 3, 1) := by decide +kernel
theorem dL_law__600 : decode cL_law_ 600 = .ok (.iadd, 1) := by decide +kernel
theorem dL_law__601 : decode cL_law_ 601 = .ok (.iaload, 1) := by decide +kernel
theorem dL_law__602 : decode cL_law_ 602 = .ok (.invokevirtual 168, 3) := by decide +kernel
theorem dL_law__605 : decode cL_law_ 605 = .ok (.aload_n 2, 1) := by decide +kernel
theorem dL_law__606 : decode cL_law_ 606 = .ok (.invokevirtual 147, 3) := by decide +kernel
theorem dL_law__609 : decode cL_law_ 609 = .ok (.iload 5, 2) := by decide +kernel
theorem dL_law__611 : decode cL_law_ 611 = .ok (.if_icmp .eq 5, 3) := by decide +kernel
theorem dL_law__614 : decode cL_law_ 614 = .ok (.iconst 0, 1) := by decide +kernel
theorem dL_law__615 : decode cL_law_ 615 = .ok (.ireturn, 1) := by decide +kernel
theorem dL_law__616 : decode cL_law_ 616 = .ok (.goto 2318, 3) := by decide +kernel
theorem dL_law__619 : decode cL_law_ 619 = .ok (.aload_n 1, 1) := by decide +kernel
theorem dL_law__620 : decode cL_law_ 620 = .ok (.aload_n 0, 1) := by decide +kernel
theorem dL_law__621 : decode cL_law_ 621 = .ok (.iload 4, 2) := by decide +kernel
theorem dL_law__623 : decode cL_law_ 623 = .ok (.iconst 1, 1) := by decide +kernel
theorem dL_law__624 : decode cL_law_ 624 = .ok (.iadd, 1) := by decide +kernel
theorem dL_law__625 : decode cL_law_ 625 = .ok (.iaload, 1) := by decide +kernel
theorem dL_law__626 : decode cL_law_ 626 = .ok (.aload_n 0, 1) := by decide +kernel
theorem dL_law__627 : decode cL_law_ 627 = .ok (.iload 4, 2) := by decide +kernel
theorem dL_law__629 : decode cL_law_ 629 = .ok (.iconst 2, 1) := by decide +kernel
theorem dL_law__630 : decode cL_law_ 630 = .ok (.iadd, 1) := by decide +kernel
theorem dL_law__631 : decode cL_law_ 631 = .ok (.iaload, 1) := by decide +kernel
theorem dL_law__632 : decode cL_law_ 632 = .ok (.aload_n 0, 1) := by decide +kernel
theorem dL_law__633 : decode cL_law_ 633 = .ok (.iload 4, 2) := by decide +kernel
theorem dL_law__635 : decode cL_law_ 635 = .ok (.iconst 3, 1) := by decide +kernel
theorem dL_law__636 : decode cL_law_ 636 = .ok (.iadd, 1) := by decide +kernel
theorem dL_law__637 : decode cL_law_ 637 = .ok (.iaload, 1) := by decide +kernel
theorem dL_law__638 : decode cL_law_ 638 = .ok (.aload_n 3, 1) := by decide +kernel
theorem dL_law__639 : decode cL_law_ 639 = .ok (.invokestatic 169, 3) := by decide +kernel
theorem dL_law__642 : decode cL_law_ 642 = .ok (.istore 5, 2) := by decide +kernel
theorem dL_law__644 : decode cL_law_ 644 = .ok (.aload_n 2, 1) := by decide +kernel
theorem dL_law__645 : decode cL_law_ 645 = .ok (.aload_n 0, 1) := by decide +kernel
theorem dL_law__646 : decode cL_law_ 646 = .ok (.iload 4, 2) := by decide +kernel
theorem dL_law__648 : decode cL_law_ 648 = .ok (.iconst 1, 1) := by decide +kernel
theorem dL_law__649 : decode cL_law_ 649 = .ok (.iadd, 1) := by decide +kernel
theorem dL_law__650 : decode cL_law_ 650 = .ok (.iaload, 1) := by decide +kernel
theorem dL_law__651 : decode cL_law_ 651 = .ok (.aload_n 0, 1) := by decide +kernel
theorem dL_law__652 : decode cL_law_ 652 = .ok (.iload 4, 2) := by decide +kernel
theorem dL_law__654 : decode cL_law_ 654 = .ok (.iconst 2, 1) := by decide +kernel
theorem dL_law__655 : decode cL_law_ 655 = .ok (.iadd, 1) := by decide +kernel
theorem dL_law__656 : decode cL_law_ 656 = .ok (.iaload, 1) := by decide +kernel
theorem dL_law__657 : decode cL_law_ 657 = .ok (.aload_n 0, 1) := by decide +kernel
theorem dL_law__658 : decode cL_law_ 658 = .ok (.iload 4, 2) := by decide +kernel
theorem dL_law__660 : decode cL_law_ 660 = .ok (.iconst 3, 1) := by decide +kernel
theorem dL_law__661 : decode cL_law_ 661 = .ok (.iadd, 1) := by decide +kernel
theorem dL_law__662 : decode cL_law_ 662 = .ok (.iaload, 1) := by decide +kernel
theorem dL_law__663 : decode cL_law_ 663 = .ok (.invokevirtual 171, 3) := by decide +kernel
theorem dL_law__666 : decode cL_law_ 666 = .ok (.istore 6, 2) := by decide +kernel
theorem dL_law__668 : decode cL_law_ 668 = .ok (.aload_n 2, 1) := by decide +kernel
theorem dL_law__669 : decode cL_law_ 669 = .ok (.invokevirtual 147, 3) := by decide +kernel
theorem dL_law__672 : decode cL_law_ 672 = .ok (.iload 5, 2) := by decide +kernel
theorem dL_law__674 : decode cL_law_ 674 = .ok (.if_icmp .eq 5, 3) := by decide +kernel
theorem dL_law__677 : decode cL_law_ 677 = .ok (.iconst 0, 1) := by decide +kernel
theorem dL_law__678 : decode cL_law_ 678 = .ok (.ireturn, 1) := by decide +kernel
theorem dL_law__679 : decode cL_law_ 679 = .ok (.iload 5, 2) := by decide +kernel
theorem dL_law__681 : decode cL_law_ 681 = .ok (.ifCond .ne 15, 3) := by decide +kernel
theorem dL_law__684 : decode cL_law_ 684 = .ok (.aload_n 3, 1) := by decide +kernel
theorem dL_law__685 : decode cL_law_ 685 = .ok (.iconst 0, 1) := by decide +kernel
theorem dL_law__686 : decode cL_law_ 686 = .ok (.laload, 1) := by decide +kernel
theorem dL_law__687 : decode cL_law_ 687 = .ok (.iload 6, 2) := by decide +kernel
theorem dL_law__689 : decode cL_law_ 689 = .ok (.i2l, 1) := by decide +kernel
theorem dL_law__690 : decode cL_law_ 690 = .ok (.lcmp, 1) := by decide +kernel
theorem dL_law__691 : decode cL_law_ 691 = .ok (.ifCond .eq 5, 3) := by decide +kernel
theorem dL_law__694 : decode cL_law_ 694 = .ok (.iconst 0, 1) := by decide +kernel
theorem dL_law__695 : decode cL_law_ 695 = .ok (.ireturn, 1) := by decide +kernel
theorem dL_law__696 : decode cL_law_ 696 = .ok (.goto 2238, 3) := by decide +kernel
theorem dL_law__699 : decode cL_law_ 699 = .ok (.aload_n 1, 1) := by decide +kernel
theorem dL_law__700 : decode cL_law_ 700 = .ok (.aload_n 0, 1) := by decide +kernel
theorem dL_law__701 : decode cL_law_ 701 = .ok (.iload 4, 2) := by decide +kernel
theorem dL_law__703 : decode cL_law_ 703 = .ok (.iconst 1, 1) := by decide +kernel
theorem dL_law__704 : decode cL_law_ 704 = .ok (.iadd, 1) := by decide +kernel
theorem dL_law__705 : decode cL_law_ 705 = .ok (.iaload, 1) := by decide +kernel
theorem dL_law__706 : decode cL_law_ 706 = .ok (.aload_n 0, 1) := by decide +kernel
theorem dL_law__707 : decode cL_law_ 707 = .ok (.iload 4, 2) := by decide +kernel
theorem dL_law__709 : decode cL_law_ 709 = .ok (.iconst 2, 1) := by decide +kernel
theorem dL_law__710 : decode cL_law_ 710 = .ok (.iadd, 1) := by decide +kernel
theorem dL_law__711 : decode cL_law_ 711 = .ok (.iaload, 1) := by decide +kernel
theorem dL_law__712 : decode cL_law_ 712 = .ok (.aload_n 3, 1) := by decide +kernel
theorem dL_law__713 : decode cL_law_ 713 = .ok (.invokestatic 172, 3) := by decide +kernel
theorem dL_law__716 : decode cL_law_ 716 = .ok (.istore 5, 2) := by decide +kernel
theorem dL_law__718 : decode cL_law_ 718 = .ok (.aload_n 2, 1) := by decide +kernel
theorem dL_law__719 : decode cL_law_ 719 = .ok (.aload_n 0, 1) := by decide +kernel
theorem dL_law__720 : decode cL_law_ 720 = .ok (.iload 4, 2) := by decide +kernel
theorem dL_law__722 : decode cL_law_ 722 = .ok (.iconst 1, 1) := by decide +kernel
theorem dL_law__723 : decode cL_law_ 723 = .ok (.iadd, 1) := by decide +kernel
theorem dL_law__724 : decode cL_law_ 724 = .ok (.iaload, 1) := by decide +kernel
theorem dL_law__725 : decode cL_law_ 725 = .ok (.aload_n 0, 1) := by decide +kernel
theorem dL_law__726 : decode cL_law_ 726 = .ok (.iload 4, 2) := by decide +kernel
theorem dL_law__728 : decode cL_law_ 728 = .ok (.iconst 2, 1) := by decide +kernel
theorem dL_law__729 : decode cL_law_ 729 = .ok (.iadd, 1) := by decide +kernel
theorem dL_law__730 : decode cL_law_ 730 = .ok (.iaload, 1) := by decide +kernel
theorem dL_law__731 : decode cL_law_ 731 = .ok (.invokevirtual 175, 3) := by decide +kernel
theorem dL_law__734 : decode cL_law_ 734 = .ok (.istore 6, 2) := by decide +kernel
theorem dL_law__736 : decode cL_law_ 736 = .ok (.aload_n 2, 1) := by decide +kernel
theorem dL_law__737 : decode cL_law_ 737 = .ok (.invokevirtual 147, 3) := by decide +kernel
theorem dL_law__740 : decode cL_law_ 740 = .ok (.iload 5, 2) := by decide +kernel
theorem dL_law__742 : decode cL_law_ 742 = .ok (.if_icmp .eq 5, 3) := by decide +kernel
theorem dL_law__745 : decode cL_law_ 745 = .ok (.iconst 0, 1) := by decide +kernel
theorem dL_law__746 : decode cL_law_ 746 = .ok (.ireturn, 1) := by decide +kernel
theorem dL_law__747 : decode cL_law_ 747 = .ok (.iload 5, 2) := by decide +kernel
theorem dL_law__749 : decode cL_law_ 749 = .ok (.ifCond .ne 15, 3) := by decide +kernel
theorem dL_law__752 : decode cL_law_ 752 = .ok (.aload_n 3, 1) := by decide +kernel
theorem dL_law__753 : decode cL_law_ 753 = .ok (.iconst 0, 1) := by decide +kernel
theorem dL_law__754 : decode cL_law_ 754 = .ok (.laload, 1) := by decide +kernel
theorem dL_law__755 : decode cL_law_ 755 = .ok (.iload 6, 2) := by decide +kernel
theorem dL_law__757 : decode cL_law_ 757 = .ok (.i2l, 1) := by decide +kernel
theorem dL_law__758 : decode cL_law_ 758 = .ok (.lcmp, 1) := by decide +kernel
theorem dL_law__759 : decode cL_law_ 759 = .ok (.ifCond .eq 5, 3) := by decide +kernel
theorem dL_law__762 : decode cL_law_ 762 = .ok (.iconst 0, 1) := by decide +kernel
theorem dL_law__763 : decode cL_law_ 763 = .ok (.ireturn, 1) := by decide +kernel
theorem dL_law__764 : decode cL_law_ 764 = .ok (.goto 2170, 3) := by decide +kernel
theorem dL_law__767 : decode cL_law_ 767 = .ok (.aload_n 1, 1) := by decide +kernel
theorem dL_law__768 : decode cL_law_ 768 = .ok (.aload_n 0, 1) := by decide +kernel
theorem dL_law__769 : decode cL_law_ 769 = .ok (.iload 4, 2) := by decide +kernel
theorem dL_law__771 : decode cL_law_ 771 = .ok (.iconst 1, 1) := by decide +kernel
theorem dL_law__772 : decode cL_law_ 772 = .ok (.iadd, 1) := by decide +kernel
theorem dL_law__773 : decode cL_law_ 773 = .ok (.iaload, 1) := by decide +kernel
theorem dL_law__774 : decode cL_law_ 774 = .ok (.aload_n 0, 1) := by decide +kernel
theorem dL_law__775 : decode cL_law_ 775 = .ok (.iload 4, 2) := by decide +kernel
theorem dL_law__777 : decode cL_law_ 777 = .ok (.iconst 2, 1) := by decide +kernel
theorem dL_law__778 : decode cL_law_ 778 = .ok (.iadd, 1) := by decide +kernel
theorem dL_law__779 : decode cL_law_ 779 = .ok (.iaload, 1) := by decide +kernel
theorem dL_law__780 : decode cL_law_ 780 = .ok (.aload_n 0, 1) := by decide +kernel
theorem dL_law__781 : decode cL_law_ 781 = .ok (.iload 4, 2) := by decide +kernel
theorem dL_law__783 : decode cL_law_ 783 = .ok (.iconst 3, 1) := by decide +kernel
theorem dL_law__784 : decode cL_law_ 784 = .ok (.iadd, 1) := by decide +kernel
theorem dL_law__785 : decode cL_law_ 785 = .ok (.iaload, 1) := by decide +kernel
theorem dL_law__786 : decode cL_law_ 786 = .ok (.aload_n 0, 1) := by decide +kernel
theorem dL_law__787 : decode cL_law_ 787 = .ok (.iload 4, 2) := by decide +kernel
theorem dL_law__789 : decode cL_law_ 789 = .ok (.iconst 4, 1) := by decide +kernel
theorem dL_law__790 : decode cL_law_ 790 = .ok (.iadd, 1) := by decide +kernel
theorem dL_law__791 : decode cL_law_ 791 = .ok (.iaload, 1) := by decide +kernel
theorem dL_law__792 : decode cL_law_ 792 = .ok (.aload_n 0, 1) := by decide +kernel
theorem dL_law__793 : decode cL_law_ 793 = .ok (.iload 4, 2) := by decide +kernel
theorem dL_law__795 : decode cL_law_ 795 = .ok (.iconst 5, 1) := by decide +kernel
theorem dL_law__796 : decode cL_law_ 796 = .ok (.iadd, 1) := by decide +kernel
theorem dL_law__797 : decode cL_law_ 797 = .ok (.iaload, 1) := by decide +kernel
theorem dL_law__798 : decode cL_law_ 798 = .ok (.aload_n 3, 1) := by decide +kernel
theorem dL_law__799 : decode cL_law_ 799 = .ok (.invokestatic 176, 3) := by decide +kernel
theorem dL_law__802 : decode cL_law_ 802 = .ok (.istore 5, 2) := by decide +kernel
theorem dL_law__804 : decode cL_law_ 804 = .ok (.aload_n 2, 1) := by decide +kernel
theorem dL_law__805 : decode cL_law_ 805 = .ok (.aload_n 0, 1) := by decide +kernel
theorem dL_law__806 : decode cL_law_ 806 = .ok (.iload 4, 2) := by decide +kernel
theorem dL_law__808 : decode cL_law_ 808 = .ok (.iconst 1, 1) := by decide +kernel
theorem dL_law__809 : decode cL_law_ 809 = .ok (.iadd, 1) := by decide +kernel
theorem dL_law__810 : decode cL_law_ 810 = .ok (.iaload, 1) := by decide +kernel
theorem dL_law__811 : decode cL_law_ 811 = .ok (.aload_n 0, 1) := by decide +kernel
theorem dL_law__812 : decode cL_law_ 812 = .ok (.iload 4, 2) := by decide +kernel
theorem dL_law__814 : decode cL_law_ 814 = .ok (.iconst 2, 1) := by decide +kernel
theorem dL_law__815 : decode cL_law_ 815 = .ok (.iadd, 1) := by decide +kernel
theorem dL_law__816 : decode cL_law_ 816 = .ok (.iaload, 1) := by decide +kernel
theorem dL_law__817 : decode cL_law_ 817 = .ok (.aload_n 0, 1) := by decide +kernel
theorem dL_law__818 : decode cL_law_ 818 = .ok (.iload 4, 2) := by decide +kernel
theorem dL_law__820 : decode cL_law_ 820 = .ok (.iconst 3, 1) := by decide +kernel
theorem dL_law__821 : decode cL_law_ 821 = .ok (.iadd, 1) := by decide +kernel
theorem dL_law__822 : decode cL_law_ 822 = .ok (.iaload, 1) := by decide +kernel
theorem dL_law__823 : decode cL_law_ 823 = .ok (.aload_n 0, 1) := by decide +kernel
theorem dL_law__824 : decode cL_law_ 824 = .ok (.iload 4, 2) := by decide +kernel
theorem dL_law__826 : decode cL_law_ 826 = .ok (.iconst 4, 1) := by decide +kernel
theorem dL_law__827 : decode cL_law_ 827 = .ok (.iadd, 1) := by decide +kernel
theorem dL_law__828 : decode cL_law_ 828 = .ok (.iaload, 1) := by decide +kernel
theorem dL_law__829 : decode cL_law_ 829 = .ok (.aload_n 0, 1) := by decide +kernel
theorem dL_law__830 : decode cL_law_ 830 = .ok (.iload 4, 2) := by decide +kernel
theorem dL_law__832 : decode cL_law_ 832 = .ok (.iconst 5, 1) := by decide +kernel
theorem dL_law__833 : decode cL_law_ 833 = .ok (.iadd, 1) := by decide +kernel
theorem dL_law__834 : decode cL_law_ 834 = .ok (.iaload, 1) := by decide +kernel
theorem dL_law__835 : decode cL_law_ 835 = .ok (.invokevirtual 179, 3) := by decide +kernel
theorem dL_law__838 : decode cL_law_ 838 = .ok (.istore 6, 2) := by decide +kernel
theorem dL_law__840 : decode cL_law_ 840 = .ok (.aload_n 2, 1) := by decide +kernel
theorem dL_law__841 : decode cL_law_ 841 = .ok (.invokevirtual 147, 3) := by decide +kernel
theorem dL_law__844 : decode cL_law_ 844 = .ok (.iload 5, 2) := by decide +kernel
theorem dL_law__846 : decode cL_law_ 846 = .ok (.if_icmp .eq 5, 3) := by decide +kernel
theorem dL_law__849 : decode cL_law_ 849 = .ok (.iconst 0, 1) := by decide +kernel
theorem dL_law__850 : decode cL_law_ 850 = .ok (.ireturn, 1) := by decide +kernel
theorem dL_law__851 : decode cL_law_ 851 = .ok (.iload 5, 2) := by decide +kernel
theorem dL_law__853 : decode cL_law_ 853 = .ok (.ifCond .ne 15, 3) := by decide +kernel
theorem dL_law__856 : decode cL_law_ 856 = .ok (.aload_n 3, 1) := by decide +kernel
theorem dL_law__857 : decode cL_law_ 857 = .ok (.iconst 0, 1) := by decide +kernel
theorem dL_law__858 : decode cL_law_ 858 = .ok (.laload, 1) := by decide +kernel
theorem dL_law__859 : decode cL_law_ 859 = .ok (.iload 6, 2) := by decide +kernel
theorem dL_law__861 : decode cL_law_ 861 = .ok (.i2l, 1) := by decide +kernel
theorem dL_law__862 : decode cL_law_ 862 = .ok (.lcmp, 1) := by decide +kernel
theorem dL_law__863 : decode cL_law_ 863 = .ok (.ifCond .eq 5, 3) := by decide +kernel
theorem dL_law__866 : decode cL_law_ 866 = .ok (.iconst 0, 1) := by decide +kernel
theorem dL_law__867 : decode cL_law_ 867 = .ok (.ireturn, 1) := by decide +kernel
