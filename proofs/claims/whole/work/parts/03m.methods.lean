set_option maxRecDepth 100000 in
theorem x_pm0 : x_PM ((0, 1), 3, 999) := ⟨fun h => absurd h (by decide), fun h => absurd h (by decide), fun h => absurd h (by decide), fun _ => (x_inw 68 rfl rfl), fun h => absurd h (by decide)⟩
set_option maxRecDepth 100000 in
theorem x_pm1 : x_PM ((0, 33), 4, 1) := ⟨fun h => absurd h (by decide), fun h => absurd h (by decide), fun h => absurd h (by decide), fun h => absurd h (by decide), fun _ => ⟨rfl, by decide, by decide, (x_inw 81 rfl rfl), (x_inw 51 rfl rfl), rfl, rfl, by decide +kernel⟩⟩
set_option maxRecDepth 100000 in
theorem x_pm2 : x_PM ((0, 36), 1, 2) := ⟨fun h => absurd h (by decide), fun _ => ⟨rfl, by decide, (x_inw 93 rfl rfl), (x_inw 94 rfl rfl), (x_inw 53 rfl rfl), rfl, rfl, by decide +kernel⟩, fun h => absurd h (by decide), fun h => absurd h (by decide), fun h => absurd h (by decide)⟩
set_option maxRecDepth 100000 in
theorem x_pm3 : x_PM ((0, 39), 1, 4) := ⟨fun h => absurd h (by decide), fun _ => ⟨rfl, by decide, (x_inw 116 rfl rfl), (x_inw 117 rfl rfl), (x_inw 54 rfl rfl), rfl, rfl, by decide +kernel⟩, fun h => absurd h (by decide), fun h => absurd h (by decide), fun h => absurd h (by decide)⟩
set_option maxRecDepth 100000 in
theorem x_pm4 : x_PM ((0, 51), 0, 5) := ⟨fun _ => ⟨rfl, by decide, (x_inw 169 rfl rfl), (x_inw 171 rfl rfl), (x_inw 0 rfl rfl), (x_inw 50 rfl rfl), by decide, by decide +kernel⟩, fun h => absurd h (by decide), fun h => absurd h (by decide), fun h => absurd h (by decide), fun h => absurd h (by decide)⟩
set_option maxRecDepth 100000 in
theorem x_pm5 : x_PM ((0, 55), 1, 8) := ⟨fun h => absurd h (by decide), fun _ => ⟨rfl, by decide, (x_inw 180 rfl rfl), (x_inw 181 rfl rfl), (x_inw 55 rfl rfl), rfl, rfl, by decide +kernel⟩, fun h => absurd h (by decide), fun h => absurd h (by decide), fun h => absurd h (by decide)⟩
set_option maxRecDepth 100000 in
theorem x_pm6 : x_PM ((0, 58), 0, 9) := ⟨fun _ => ⟨rfl, by decide, (x_inw 213 rfl rfl), (x_inw 215 rfl rfl), (x_inw 1 rfl rfl), (x_inw 50 rfl rfl), by decide, by decide +kernel⟩, fun h => absurd h (by decide), fun h => absurd h (by decide), fun h => absurd h (by decide), fun h => absurd h (by decide)⟩
set_option maxRecDepth 100000 in
theorem x_pm7 : x_PM ((0, 64), 1, 10) := ⟨fun h => absurd h (by decide), fun _ => ⟨rfl, by decide, (x_inw 219 rfl rfl), (x_inw 220 rfl rfl), (x_inw 56 rfl rfl), rfl, rfl, by decide +kernel⟩, fun h => absurd h (by decide), fun h => absurd h (by decide), fun h => absurd h (by decide)⟩
set_option maxRecDepth 100000 in
theorem x_pm8 : x_PM ((0, 67), 0, 12) := ⟨fun _ => ⟨rfl, by decide, (x_inw 250 rfl rfl), (x_inw 252 rfl rfl), (x_inw 2 rfl rfl), (x_inw 50 rfl rfl), by decide, by decide +kernel⟩, fun h => absurd h (by decide), fun h => absurd h (by decide), fun h => absurd h (by decide), fun h => absurd h (by decide)⟩
set_option maxRecDepth 100000 in
theorem x_pm9 : x_PM ((0, 71), 0, 13) := ⟨fun _ => ⟨rfl, by decide, (x_inw 254 rfl rfl), (x_inw 256 rfl rfl), (x_inw 3 rfl rfl), (x_inw 50 rfl rfl), by decide, by decide +kernel⟩, fun h => absurd h (by decide), fun h => absurd h (by decide), fun h => absurd h (by decide), fun h => absurd h (by decide)⟩
set_option maxRecDepth 100000 in
theorem x_pm10 : x_PM ((0, 79), 0, 14) := ⟨fun _ => ⟨rfl, by decide, (x_inw 258 rfl rfl), (x_inw 260 rfl rfl), (x_inw 4 rfl rfl), (x_inw 50 rfl rfl), by decide, by decide +kernel⟩, fun h => absurd h (by decide), fun h => absurd h (by decide), fun h => absurd h (by decide), fun h => absurd h (by decide)⟩
set_option maxRecDepth 100000 in
theorem x_pm11 : x_PM ((0, 83), 0, 15) := ⟨fun _ => ⟨rfl, by decide, (x_inw 262 rfl rfl), (x_inw 264 rfl rfl), (x_inw 5 rfl rfl), (x_inw 50 rfl rfl), by decide, by decide +kernel⟩, fun h => absurd h (by decide), fun h => absurd h (by decide), fun h => absurd h (by decide), fun h => absurd h (by decide)⟩
set_option maxRecDepth 100000 in
theorem x_pm12 : x_PM ((0, 91), 0, 16) := ⟨fun _ => ⟨rfl, by decide, (x_inw 268 rfl rfl), (x_inw 270 rfl rfl), (x_inw 6 rfl rfl), (x_inw 50 rfl rfl), by decide, by decide +kernel⟩, fun h => absurd h (by decide), fun h => absurd h (by decide), fun h => absurd h (by decide), fun h => absurd h (by decide)⟩
set_option maxRecDepth 100000 in
theorem x_pm13 : x_PM ((0, 95), 2, 18) := ⟨fun h => absurd h (by decide), fun h => absurd h (by decide), fun _ => ⟨rfl, (x_inw 276 rfl rfl), (x_inw 277 rfl rfl), (x_inw 50 rfl rfl), by decide +kernel⟩, fun h => absurd h (by decide), fun h => absurd h (by decide)⟩
set_option maxRecDepth 100000 in
theorem x_pm14 : x_PM ((0, 106), 0, 19) := ⟨fun _ => ⟨rfl, by decide, (x_inw 279 rfl rfl), (x_inw 281 rfl rfl), (x_inw 8 rfl rfl), (x_inw 50 rfl rfl), by decide, by decide +kernel⟩, fun h => absurd h (by decide), fun h => absurd h (by decide), fun h => absurd h (by decide), fun h => absurd h (by decide)⟩
set_option maxRecDepth 100000 in
theorem x_pm15 : x_PM ((0, 128), 0, 28) := ⟨fun _ => ⟨rfl, by decide, (x_inw 371 rfl rfl), (x_inw 373 rfl rfl), (x_inw 9 rfl rfl), (x_inw 50 rfl rfl), by decide, by decide +kernel⟩, fun h => absurd h (by decide), fun h => absurd h (by decide), fun h => absurd h (by decide), fun h => absurd h (by decide)⟩
set_option maxRecDepth 100000 in
theorem x_pm16 : x_PM ((0, 131), 2, 41) := ⟨fun h => absurd h (by decide), fun h => absurd h (by decide), fun _ => ⟨rfl, (x_inw 419 rfl rfl), (x_inw 420 rfl rfl), (x_inw 50 rfl rfl), by decide +kernel⟩, fun h => absurd h (by decide), fun h => absurd h (by decide)⟩
set_option maxRecDepth 100000 in
theorem x_pm17 : x_PM ((0, 135), 0, 43) := ⟨fun _ => ⟨rfl, by decide, (x_inw 426 rfl rfl), (x_inw 428 rfl rfl), (x_inw 17 rfl rfl), (x_inw 50 rfl rfl), by decide, by decide +kernel⟩, fun h => absurd h (by decide), fun h => absurd h (by decide), fun h => absurd h (by decide), fun h => absurd h (by decide)⟩
set_option maxRecDepth 100000 in
theorem x_pm18 : x_PM ((0, 139), 0, 44) := ⟨fun _ => ⟨rfl, by decide, (x_inw 430 rfl rfl), (x_inw 432 rfl rfl), (x_inw 18 rfl rfl), (x_inw 50 rfl rfl), by decide, by decide +kernel⟩, fun h => absurd h (by decide), fun h => absurd h (by decide), fun h => absurd h (by decide), fun h => absurd h (by decide)⟩
set_option maxRecDepth 100000 in
theorem x_pm19 : x_PM ((0, 143), 0, 45) := ⟨fun _ => ⟨rfl, by decide, (x_inw 434 rfl rfl), (x_inw 436 rfl rfl), (x_inw 19 rfl rfl), (x_inw 50 rfl rfl), by decide, by decide +kernel⟩, fun h => absurd h (by decide), fun h => absurd h (by decide), fun h => absurd h (by decide), fun h => absurd h (by decide)⟩
set_option maxRecDepth 100000 in
theorem x_pm20 : x_PM ((0, 151), 0, 46) := ⟨fun _ => ⟨rfl, by decide, (x_inw 438 rfl rfl), (x_inw 440 rfl rfl), (x_inw 20 rfl rfl), (x_inw 50 rfl rfl), by decide, by decide +kernel⟩, fun h => absurd h (by decide), fun h => absurd h (by decide), fun h => absurd h (by decide), fun h => absurd h (by decide)⟩
set_option maxRecDepth 100000 in
theorem x_pm21 : x_PM ((0, 155), 2, 35) := ⟨fun h => absurd h (by decide), fun h => absurd h (by decide), fun _ => ⟨rfl, (x_inw 398 rfl rfl), (x_inw 399 rfl rfl), (x_inw 50 rfl rfl), by decide +kernel⟩, fun h => absurd h (by decide), fun h => absurd h (by decide)⟩
set_option maxRecDepth 100000 in
theorem x_pm22 : x_PM ((0, 167), 2, 49) := ⟨fun h => absurd h (by decide), fun h => absurd h (by decide), fun _ => ⟨rfl, (x_inw 450 rfl rfl), (x_inw 451 rfl rfl), (x_inw 50 rfl rfl), by decide +kernel⟩, fun h => absurd h (by decide), fun h => absurd h (by decide)⟩
set_option maxRecDepth 100000 in
theorem x_pm23 : x_PM ((0, 183), 2, 50) := ⟨fun h => absurd h (by decide), fun h => absurd h (by decide), fun _ => ⟨rfl, (x_inw 453 rfl rfl), (x_inw 454 rfl rfl), (x_inw 50 rfl rfl), by decide +kernel⟩, fun h => absurd h (by decide), fun h => absurd h (by decide)⟩
set_option maxRecDepth 100000 in
theorem x_pm24 : x_PM ((0, 187), 0, 51) := ⟨fun _ => ⟨rfl, by decide, (x_inw 456 rfl rfl), (x_inw 458 rfl rfl), (x_inw 21 rfl rfl), (x_inw 50 rfl rfl), by decide, by decide +kernel⟩, fun h => absurd h (by decide), fun h => absurd h (by decide), fun h => absurd h (by decide), fun h => absurd h (by decide)⟩
set_option maxRecDepth 100000 in
theorem x_pm25 : x_PM ((0, 191), 0, 55) := ⟨fun _ => ⟨rfl, by decide, (x_inw 472 rfl rfl), (x_inw 474 rfl rfl), (x_inw 23 rfl rfl), (x_inw 50 rfl rfl), by decide, by decide +kernel⟩, fun h => absurd h (by decide), fun h => absurd h (by decide), fun h => absurd h (by decide), fun h => absurd h (by decide)⟩
set_option maxRecDepth 100000 in
theorem x_pm26 : x_PM ((0, 198), 0, 56) := ⟨fun _ => ⟨rfl, by decide, (x_inw 476 rfl rfl), (x_inw 477 rfl rfl), (x_inw 478 rfl rfl), (x_inw 54 rfl rfl), by decide, by decide +kernel⟩, fun h => absurd h (by decide), fun h => absurd h (by decide), fun h => absurd h (by decide), fun h => absurd h (by decide)⟩
set_option maxRecDepth 100000 in
theorem x_pm27 : x_PM ((0, 202), 0, 59) := ⟨fun _ => ⟨rfl, by decide, (x_inw 488 rfl rfl), (x_inw 490 rfl rfl), (x_inw 24 rfl rfl), (x_inw 50 rfl rfl), by decide, by decide +kernel⟩, fun h => absurd h (by decide), fun h => absurd h (by decide), fun h => absurd h (by decide), fun h => absurd h (by decide)⟩
set_option maxRecDepth 100000 in
theorem x_pm28 : x_PM ((0, 207), 2, 60) := ⟨fun h => absurd h (by decide), fun h => absurd h (by decide), fun _ => ⟨rfl, (x_inw 492 rfl rfl), (x_inw 493 rfl rfl), (x_inw 50 rfl rfl), by decide +kernel⟩, fun h => absurd h (by decide), fun h => absurd h (by decide)⟩
set_option maxRecDepth 100000 in
theorem x_pm29 : x_PM ((0, 217), 2, 61) := ⟨fun h => absurd h (by decide), fun h => absurd h (by decide), fun _ => ⟨rfl, (x_inw 495 rfl rfl), (x_inw 496 rfl rfl), (x_inw 50 rfl rfl), by decide +kernel⟩, fun h => absurd h (by decide), fun h => absurd h (by decide)⟩
set_option maxRecDepth 100000 in
theorem x_pm30 : x_PM ((0, 221), 2, 63) := ⟨fun h => absurd h (by decide), fun h => absurd h (by decide), fun _ => ⟨rfl, (x_inw 502 rfl rfl), (x_inw 503 rfl rfl), (x_inw 50 rfl rfl), by decide +kernel⟩, fun h => absurd h (by decide), fun h => absurd h (by decide)⟩
set_option maxRecDepth 100000 in
theorem x_pm31 : x_PM ((0, 225), 2, 38) := ⟨fun h => absurd h (by decide), fun h => absurd h (by decide), fun _ => ⟨rfl, (x_inw 409 rfl rfl), (x_inw 410 rfl rfl), (x_inw 50 rfl rfl), by decide +kernel⟩, fun h => absurd h (by decide), fun h => absurd h (by decide)⟩
set_option maxRecDepth 100000 in
theorem x_pm32 : x_PM ((0, 229), 2, 30) := ⟨fun h => absurd h (by decide), fun h => absurd h (by decide), fun _ => ⟨rfl, (x_inw 379 rfl rfl), (x_inw 380 rfl rfl), (x_inw 50 rfl rfl), by decide +kernel⟩, fun h => absurd h (by decide), fun h => absurd h (by decide)⟩
set_option maxRecDepth 100000 in
theorem x_pm33 : x_PM ((0, 233), 0, 65) := ⟨fun _ => ⟨rfl, by decide, (x_inw 509 rfl rfl), (x_inw 511 rfl rfl), (x_inw 25 rfl rfl), (x_inw 50 rfl rfl), by decide, by decide +kernel⟩, fun h => absurd h (by decide), fun h => absurd h (by decide), fun h => absurd h (by decide), fun h => absurd h (by decide)⟩
set_option maxRecDepth 100000 in
theorem x_pm34 : x_PM ((0, 240), 2, 68) := ⟨fun h => absurd h (by decide), fun h => absurd h (by decide), fun _ => ⟨rfl, (x_inw 521 rfl rfl), (x_inw 522 rfl rfl), (x_inw 50 rfl rfl), by decide +kernel⟩, fun h => absurd h (by decide), fun h => absurd h (by decide)⟩
set_option maxRecDepth 100000 in
theorem x_pm35 : x_PM ((0, 245), 0, 17) := ⟨fun _ => ⟨rfl, by decide, (x_inw 272 rfl rfl), (x_inw 274 rfl rfl), (x_inw 7 rfl rfl), (x_inw 50 rfl rfl), by decide, by decide +kernel⟩, fun h => absurd h (by decide), fun h => absurd h (by decide), fun h => absurd h (by decide), fun h => absurd h (by decide)⟩
set_option maxRecDepth 100000 in
theorem x_pm36 : x_PM ((0, 253), 2, 71) := ⟨fun h => absurd h (by decide), fun h => absurd h (by decide), fun _ => ⟨rfl, (x_inw 532 rfl rfl), (x_inw 533 rfl rfl), (x_inw 50 rfl rfl), by decide +kernel⟩, fun h => absurd h (by decide), fun h => absurd h (by decide)⟩
set_option maxRecDepth 100000 in
theorem x_pm37 : x_PM ((0, 256), 0, 72) := ⟨fun _ => ⟨rfl, by decide, (x_inw 535 rfl rfl), (x_inw 537 rfl rfl), (x_inw 26 rfl rfl), (x_inw 50 rfl rfl), by decide, by decide +kernel⟩, fun h => absurd h (by decide), fun h => absurd h (by decide), fun h => absurd h (by decide), fun h => absurd h (by decide)⟩
set_option maxRecDepth 100000 in
theorem x_pm38 : x_PM ((0, 259), 0, 31) := ⟨fun _ => ⟨rfl, by decide, (x_inw 382 rfl rfl), (x_inw 384 rfl rfl), (x_inw 11 rfl rfl), (x_inw 50 rfl rfl), by decide, by decide +kernel⟩, fun h => absurd h (by decide), fun h => absurd h (by decide), fun h => absurd h (by decide), fun h => absurd h (by decide)⟩
set_option maxRecDepth 100000 in
theorem x_pm39 : x_PM ((0, 262), 0, 74) := ⟨fun _ => ⟨rfl, by decide, (x_inw 543 rfl rfl), (x_inw 545 rfl rfl), (x_inw 27 rfl rfl), (x_inw 50 rfl rfl), by decide, by decide +kernel⟩, fun h => absurd h (by decide), fun h => absurd h (by decide), fun h => absurd h (by decide), fun h => absurd h (by decide)⟩
set_option maxRecDepth 100000 in
theorem x_pm40 : x_PM ((0, 275), 1, 20) := ⟨fun h => absurd h (by decide), fun _ => ⟨rfl, by decide, (x_inw 285 rfl rfl), (x_inw 286 rfl rfl), (x_inw 58 rfl rfl), rfl, rfl, by decide +kernel⟩, fun h => absurd h (by decide), fun h => absurd h (by decide), fun h => absurd h (by decide)⟩
set_option maxRecDepth 100000 in
theorem x_pm41 : x_PM ((0, 276), 1, 21) := ⟨fun h => absurd h (by decide), fun _ => ⟨rfl, by decide, (x_inw 299 rfl rfl), (x_inw 300 rfl rfl), (x_inw 59 rfl rfl), rfl, rfl, by decide +kernel⟩, fun h => absurd h (by decide), fun h => absurd h (by decide), fun h => absurd h (by decide)⟩
set_option maxRecDepth 100000 in
theorem x_pm42 : x_PM ((0, 277), 1, 22) := ⟨fun h => absurd h (by decide), fun _ => ⟨rfl, by decide, (x_inw 317 rfl rfl), (x_inw 318 rfl rfl), (x_inw 60 rfl rfl), rfl, rfl, by decide +kernel⟩, fun h => absurd h (by decide), fun h => absurd h (by decide), fun h => absurd h (by decide)⟩
set_option maxRecDepth 100000 in
theorem x_pm43 : x_PM ((0, 278), 1, 23) := ⟨fun h => absurd h (by decide), fun _ => ⟨rfl, by decide, (x_inw 332 rfl rfl), (x_inw 333 rfl rfl), (x_inw 61 rfl rfl), rfl, rfl, by decide +kernel⟩, fun h => absurd h (by decide), fun h => absurd h (by decide), fun h => absurd h (by decide)⟩
set_option maxRecDepth 100000 in
theorem x_pm44 : x_PM ((0, 281), 1, 24) := ⟨fun h => absurd h (by decide), fun _ => ⟨rfl, by decide, (x_inw 352 rfl rfl), (x_inw 353 rfl rfl), (x_inw 62 rfl rfl), rfl, rfl, by decide +kernel⟩, fun h => absurd h (by decide), fun h => absurd h (by decide), fun h => absurd h (by decide)⟩
set_option maxRecDepth 100000 in
theorem x_pm45 : x_PM ((0, 282), 0, 29) := ⟨fun _ => ⟨rfl, by decide, (x_inw 375 rfl rfl), (x_inw 377 rfl rfl), (x_inw 10 rfl rfl), (x_inw 50 rfl rfl), by decide, by decide +kernel⟩, fun h => absurd h (by decide), fun h => absurd h (by decide), fun h => absurd h (by decide), fun h => absurd h (by decide)⟩
set_option maxRecDepth 100000 in
theorem x_pm46 : x_PM ((0, 285), 0, 32) := ⟨fun _ => ⟨rfl, by decide, (x_inw 386 rfl rfl), (x_inw 388 rfl rfl), (x_inw 12 rfl rfl), (x_inw 50 rfl rfl), by decide, by decide +kernel⟩, fun h => absurd h (by decide), fun h => absurd h (by decide), fun h => absurd h (by decide), fun h => absurd h (by decide)⟩
set_option maxRecDepth 100000 in
theorem x_pm47 : x_PM ((0, 289), 0, 33) := ⟨fun _ => ⟨rfl, by decide, (x_inw 390 rfl rfl), (x_inw 392 rfl rfl), (x_inw 13 rfl rfl), (x_inw 50 rfl rfl), by decide, by decide +kernel⟩, fun h => absurd h (by decide), fun h => absurd h (by decide), fun h => absurd h (by decide), fun h => absurd h (by decide)⟩
set_option maxRecDepth 100000 in
theorem x_pm48 : x_PM ((0, 293), 2, 6) := ⟨fun h => absurd h (by decide), fun h => absurd h (by decide), fun _ => ⟨rfl, (x_inw 173 rfl rfl), (x_inw 174 rfl rfl), (x_inw 50 rfl rfl), by decide +kernel⟩, fun h => absurd h (by decide), fun h => absurd h (by decide)⟩
set_option maxRecDepth 100000 in
theorem x_pm49 : x_PM ((0, 296), 0, 34) := ⟨fun _ => ⟨rfl, by decide, (x_inw 394 rfl rfl), (x_inw 396 rfl rfl), (x_inw 14 rfl rfl), (x_inw 50 rfl rfl), by decide, by decide +kernel⟩, fun h => absurd h (by decide), fun h => absurd h (by decide), fun h => absurd h (by decide), fun h => absurd h (by decide)⟩
set_option maxRecDepth 100000 in
theorem x_pm50 : x_PM ((0, 300), 0, 36) := ⟨fun _ => ⟨rfl, by decide, (x_inw 401 rfl rfl), (x_inw 403 rfl rfl), (x_inw 15 rfl rfl), (x_inw 50 rfl rfl), by decide, by decide +kernel⟩, fun h => absurd h (by decide), fun h => absurd h (by decide), fun h => absurd h (by decide), fun h => absurd h (by decide)⟩
set_option maxRecDepth 100000 in
theorem x_pm51 : x_PM ((0, 304), 0, 37) := ⟨fun _ => ⟨rfl, by decide, (x_inw 405 rfl rfl), (x_inw 407 rfl rfl), (x_inw 16 rfl rfl), (x_inw 50 rfl rfl), by decide, by decide +kernel⟩, fun h => absurd h (by decide), fun h => absurd h (by decide), fun h => absurd h (by decide), fun h => absurd h (by decide)⟩
set_option maxRecDepth 100000 in
theorem x_pm52 : x_PM ((0, 308), 2, 39) := ⟨fun h => absurd h (by decide), fun h => absurd h (by decide), fun _ => ⟨rfl, (x_inw 412 rfl rfl), (x_inw 413 rfl rfl), (x_inw 50 rfl rfl), by decide +kernel⟩, fun h => absurd h (by decide), fun h => absurd h (by decide)⟩
set_option maxRecDepth 100000 in
theorem x_pm53 : x_PM ((0, 318), 2, 7) := ⟨fun h => absurd h (by decide), fun h => absurd h (by decide), fun _ => ⟨rfl, (x_inw 176 rfl rfl), (x_inw 177 rfl rfl), (x_inw 50 rfl rfl), by decide +kernel⟩, fun h => absurd h (by decide), fun h => absurd h (by decide)⟩
set_option maxRecDepth 100000 in
theorem x_pm54 : x_PM ((0, 328), 0, 52) := ⟨fun _ => ⟨rfl, by decide, (x_inw 460 rfl rfl), (x_inw 462 rfl rfl), (x_inw 22 rfl rfl), (x_inw 50 rfl rfl), by decide, by decide +kernel⟩, fun h => absurd h (by decide), fun h => absurd h (by decide), fun h => absurd h (by decide), fun h => absurd h (by decide)⟩
set_option maxRecDepth 100000 in
theorem x_pm55 : x_PM ((1, 1), 3, 999) := ⟨fun h => absurd h (by decide), fun h => absurd h (by decide), fun h => absurd h (by decide), fun _ => (x_inw 183 rfl rfl), fun h => absurd h (by decide)⟩
set_option maxRecDepth 100000 in
theorem x_pm56 : x_PM ((2, 3), 1, 3) := ⟨fun h => absurd h (by decide), fun _ => ⟨rfl, by decide, (x_inw 119 rfl rfl), (x_inw 97 rfl rfl), (x_inw 52 rfl rfl), rfl, rfl, by decide +kernel⟩, fun h => absurd h (by decide), fun h => absurd h (by decide), fun h => absurd h (by decide)⟩
set_option maxRecDepth 100000 in
theorem x_pm57 : x_PM ((3, 1), 3, 999) := ⟨fun h => absurd h (by decide), fun h => absurd h (by decide), fun h => absurd h (by decide), fun _ => (x_inw 83 rfl rfl), fun h => absurd h (by decide)⟩
set_option maxRecDepth 100000 in
theorem x_pm58 : x_PM ((4, 3), 1, 3) := ⟨fun h => absurd h (by decide), fun _ => ⟨rfl, by decide, (x_inw 222 rfl rfl), (x_inw 97 rfl rfl), (x_inw 52 rfl rfl), rfl, rfl, by decide +kernel⟩, fun h => absurd h (by decide), fun h => absurd h (by decide), fun h => absurd h (by decide)⟩
set_option maxRecDepth 100000 in
theorem x_pm59 : x_PM ((5, 3), 1, 3) := ⟨fun h => absurd h (by decide), fun _ => ⟨rfl, by decide, (x_inw 96 rfl rfl), (x_inw 97 rfl rfl), (x_inw 52 rfl rfl), rfl, rfl, by decide +kernel⟩, fun h => absurd h (by decide), fun h => absurd h (by decide), fun h => absurd h (by decide)⟩
set_option maxRecDepth 100000 in
theorem x_pm60 : x_PM ((6, 3), 1, 3) := ⟨fun h => absurd h (by decide), fun _ => ⟨rfl, by decide, (x_inw 288 rfl rfl), (x_inw 97 rfl rfl), (x_inw 52 rfl rfl), rfl, rfl, by decide +kernel⟩, fun h => absurd h (by decide), fun h => absurd h (by decide), fun h => absurd h (by decide)⟩
set_option maxRecDepth 100000 in
theorem x_pm61 : x_PM ((6, 11), 4, 1) := ⟨fun h => absurd h (by decide), fun h => absurd h (by decide), fun h => absurd h (by decide), fun h => absurd h (by decide), fun _ => ⟨rfl, by decide, by decide, (x_inw 81 rfl rfl), (x_inw 51 rfl rfl), rfl, rfl, by decide +kernel⟩⟩
set_option maxRecDepth 100000 in
theorem x_pm62 : x_PM ((7, 3), 1, 3) := ⟨fun h => absurd h (by decide), fun _ => ⟨rfl, by decide, (x_inw 302 rfl rfl), (x_inw 97 rfl rfl), (x_inw 52 rfl rfl), rfl, rfl, by decide +kernel⟩, fun h => absurd h (by decide), fun h => absurd h (by decide), fun h => absurd h (by decide)⟩
set_option maxRecDepth 100000 in
theorem x_pm63 : x_PM ((7, 11), 4, 1) := ⟨fun h => absurd h (by decide), fun h => absurd h (by decide), fun h => absurd h (by decide), fun h => absurd h (by decide), fun _ => ⟨rfl, by decide, by decide, (x_inw 81 rfl rfl), (x_inw 51 rfl rfl), rfl, rfl, by decide +kernel⟩⟩
set_option maxRecDepth 100000 in
theorem x_pm64 : x_PM ((8, 3), 1, 3) := ⟨fun h => absurd h (by decide), fun _ => ⟨rfl, by decide, (x_inw 320 rfl rfl), (x_inw 97 rfl rfl), (x_inw 52 rfl rfl), rfl, rfl, by decide +kernel⟩, fun h => absurd h (by decide), fun h => absurd h (by decide), fun h => absurd h (by decide)⟩
set_option maxRecDepth 100000 in
theorem x_pm65 : x_PM ((9, 3), 1, 3) := ⟨fun h => absurd h (by decide), fun _ => ⟨rfl, by decide, (x_inw 335 rfl rfl), (x_inw 97 rfl rfl), (x_inw 52 rfl rfl), rfl, rfl, by decide +kernel⟩, fun h => absurd h (by decide), fun h => absurd h (by decide), fun h => absurd h (by decide)⟩
set_option maxRecDepth 100000 in
theorem x_pm66 : x_PM ((10, 3), 1, 3) := ⟨fun h => absurd h (by decide), fun _ => ⟨rfl, by decide, (x_inw 355 rfl rfl), (x_inw 97 rfl rfl), (x_inw 52 rfl rfl), rfl, rfl, by decide +kernel⟩, fun h => absurd h (by decide), fun h => absurd h (by decide), fun h => absurd h (by decide)⟩
set_option maxRecDepth 100000 in
theorem x_pm67 : x_PM ((11, 1), 3, 999) := ⟨fun h => absurd h (by decide), fun h => absurd h (by decide), fun h => absurd h (by decide), fun _ => (x_inw 556 rfl rfl), fun h => absurd h (by decide)⟩
set_option maxRecDepth 100000 in
theorem x_pm68 : x_PM ((11, 95), 0, 77) := ⟨fun _ => ⟨rfl, by decide, (x_inw 557 rfl rfl), (x_inw 559 rfl rfl), (x_inw 28 rfl rfl), (x_inw 57 rfl rfl), by decide, by decide +kernel⟩, fun h => absurd h (by decide), fun h => absurd h (by decide), fun h => absurd h (by decide), fun h => absurd h (by decide)⟩
set_option maxRecDepth 100000 in
theorem x_pm69 : x_PM ((11, 99), 0, 78) := ⟨fun _ => ⟨rfl, by decide, (x_inw 561 rfl rfl), (x_inw 563 rfl rfl), (x_inw 29 rfl rfl), (x_inw 57 rfl rfl), by decide, by decide +kernel⟩, fun h => absurd h (by decide), fun h => absurd h (by decide), fun h => absurd h (by decide), fun h => absurd h (by decide)⟩
set_option maxRecDepth 100000 in
theorem x_pm70 : x_PM ((11, 103), 0, 79) := ⟨fun _ => ⟨rfl, by decide, (x_inw 565 rfl rfl), (x_inw 567 rfl rfl), (x_inw 30 rfl rfl), (x_inw 57 rfl rfl), by decide, by decide +kernel⟩, fun h => absurd h (by decide), fun h => absurd h (by decide), fun h => absurd h (by decide), fun h => absurd h (by decide)⟩
set_option maxRecDepth 100000 in
theorem x_pm71 : x_PM ((11, 111), 0, 81) := ⟨fun _ => ⟨rfl, by decide, (x_inw 663 rfl rfl), (x_inw 665 rfl rfl), (x_inw 31 rfl rfl), (x_inw 57 rfl rfl), by decide, by decide +kernel⟩, fun h => absurd h (by decide), fun h => absurd h (by decide), fun h => absurd h (by decide), fun h => absurd h (by decide)⟩
set_option maxRecDepth 100000 in
theorem x_pm72 : x_PM ((11, 115), 0, 83) := ⟨fun _ => ⟨rfl, by decide, (x_inw 671 rfl rfl), (x_inw 673 rfl rfl), (x_inw 33 rfl rfl), (x_inw 57 rfl rfl), by decide, by decide +kernel⟩, fun h => absurd h (by decide), fun h => absurd h (by decide), fun h => absurd h (by decide), fun h => absurd h (by decide)⟩
set_option maxRecDepth 100000 in
theorem x_pm73 : x_PM ((11, 119), 0, 93) := ⟨fun _ => ⟨rfl, by decide, (x_inw 710 rfl rfl), (x_inw 712 rfl rfl), (x_inw 39 rfl rfl), (x_inw 57 rfl rfl), by decide, by decide +kernel⟩, fun h => absurd h (by decide), fun h => absurd h (by decide), fun h => absurd h (by decide), fun h => absurd h (by decide)⟩
set_option maxRecDepth 100000 in
theorem x_pm74 : x_PM ((11, 122), 0, 87) := ⟨fun _ => ⟨rfl, by decide, (x_inw 686 rfl rfl), (x_inw 688 rfl rfl), (x_inw 36 rfl rfl), (x_inw 57 rfl rfl), by decide, by decide +kernel⟩, fun h => absurd h (by decide), fun h => absurd h (by decide), fun h => absurd h (by decide), fun h => absurd h (by decide)⟩
set_option maxRecDepth 100000 in
theorem x_pm75 : x_PM ((11, 126), 0, 108) := ⟨fun _ => ⟨rfl, by decide, (x_inw 770 rfl rfl), (x_inw 772 rfl rfl), (x_inw 46 rfl rfl), (x_inw 57 rfl rfl), by decide, by decide +kernel⟩, fun h => absurd h (by decide), fun h => absurd h (by decide), fun h => absurd h (by decide), fun h => absurd h (by decide)⟩
set_option maxRecDepth 100000 in
theorem x_pm76 : x_PM ((11, 130), 0, 92) := ⟨fun _ => ⟨rfl, by decide, (x_inw 706 rfl rfl), (x_inw 708 rfl rfl), (x_inw 38 rfl rfl), (x_inw 57 rfl rfl), by decide, by decide +kernel⟩, fun h => absurd h (by decide), fun h => absurd h (by decide), fun h => absurd h (by decide), fun h => absurd h (by decide)⟩
set_option maxRecDepth 100000 in
theorem x_pm77 : x_PM ((11, 133), 0, 82) := ⟨fun _ => ⟨rfl, by decide, (x_inw 667 rfl rfl), (x_inw 669 rfl rfl), (x_inw 32 rfl rfl), (x_inw 57 rfl rfl), by decide, by decide +kernel⟩, fun h => absurd h (by decide), fun h => absurd h (by decide), fun h => absurd h (by decide), fun h => absurd h (by decide)⟩
set_option maxRecDepth 100000 in
theorem x_pm78 : x_PM ((11, 136), 0, 84) := ⟨fun _ => ⟨rfl, by decide, (x_inw 675 rfl rfl), (x_inw 677 rfl rfl), (x_inw 34 rfl rfl), (x_inw 57 rfl rfl), by decide, by decide +kernel⟩, fun h => absurd h (by decide), fun h => absurd h (by decide), fun h => absurd h (by decide), fun h => absurd h (by decide)⟩
set_option maxRecDepth 100000 in
theorem x_pm79 : x_PM ((11, 139), 2, 85) := ⟨fun h => absurd h (by decide), fun h => absurd h (by decide), fun _ => ⟨rfl, (x_inw 679 rfl rfl), (x_inw 680 rfl rfl), (x_inw 57 rfl rfl), by decide +kernel⟩, fun h => absurd h (by decide), fun h => absurd h (by decide)⟩
set_option maxRecDepth 100000 in
theorem x_pm80 : x_PM ((11, 142), 0, 86) := ⟨fun _ => ⟨rfl, by decide, (x_inw 682 rfl rfl), (x_inw 684 rfl rfl), (x_inw 35 rfl rfl), (x_inw 57 rfl rfl), by decide, by decide +kernel⟩, fun h => absurd h (by decide), fun h => absurd h (by decide), fun h => absurd h (by decide), fun h => absurd h (by decide)⟩
set_option maxRecDepth 100000 in
theorem x_pm81 : x_PM ((11, 145), 0, 91) := ⟨fun _ => ⟨rfl, by decide, (x_inw 702 rfl rfl), (x_inw 704 rfl rfl), (x_inw 37 rfl rfl), (x_inw 57 rfl rfl), by decide, by decide +kernel⟩, fun h => absurd h (by decide), fun h => absurd h (by decide), fun h => absurd h (by decide), fun h => absurd h (by decide)⟩
set_option maxRecDepth 100000 in
theorem x_pm82 : x_PM ((11, 148), 0, 98) := ⟨fun _ => ⟨rfl, by decide, (x_inw 730 rfl rfl), (x_inw 732 rfl rfl), (x_inw 40 rfl rfl), (x_inw 57 rfl rfl), by decide, by decide +kernel⟩, fun h => absurd h (by decide), fun h => absurd h (by decide), fun h => absurd h (by decide), fun h => absurd h (by decide)⟩
set_option maxRecDepth 100000 in
theorem x_pm83 : x_PM ((11, 151), 0, 99) := ⟨fun _ => ⟨rfl, by decide, (x_inw 734 rfl rfl), (x_inw 736 rfl rfl), (x_inw 41 rfl rfl), (x_inw 57 rfl rfl), by decide, by decide +kernel⟩, fun h => absurd h (by decide), fun h => absurd h (by decide), fun h => absurd h (by decide), fun h => absurd h (by decide)⟩
set_option maxRecDepth 100000 in
theorem x_pm84 : x_PM ((11, 155), 0, 100) := ⟨fun _ => ⟨rfl, by decide, (x_inw 738 rfl rfl), (x_inw 740 rfl rfl), (x_inw 42 rfl rfl), (x_inw 57 rfl rfl), by decide, by decide +kernel⟩, fun h => absurd h (by decide), fun h => absurd h (by decide), fun h => absurd h (by decide), fun h => absurd h (by decide)⟩
set_option maxRecDepth 100000 in
theorem x_pm85 : x_PM ((11, 158), 0, 104) := ⟨fun _ => ⟨rfl, by decide, (x_inw 754 rfl rfl), (x_inw 756 rfl rfl), (x_inw 44 rfl rfl), (x_inw 57 rfl rfl), by decide, by decide +kernel⟩, fun h => absurd h (by decide), fun h => absurd h (by decide), fun h => absurd h (by decide), fun h => absurd h (by decide)⟩
set_option maxRecDepth 100000 in
theorem x_pm86 : x_PM ((11, 161), 0, 103) := ⟨fun _ => ⟨rfl, by decide, (x_inw 750 rfl rfl), (x_inw 752 rfl rfl), (x_inw 43 rfl rfl), (x_inw 57 rfl rfl), by decide, by decide +kernel⟩, fun h => absurd h (by decide), fun h => absurd h (by decide), fun h => absurd h (by decide), fun h => absurd h (by decide)⟩
set_option maxRecDepth 100000 in
theorem x_pm87 : x_PM ((11, 164), 0, 107) := ⟨fun _ => ⟨rfl, by decide, (x_inw 766 rfl rfl), (x_inw 768 rfl rfl), (x_inw 45 rfl rfl), (x_inw 57 rfl rfl), by decide, by decide +kernel⟩, fun h => absurd h (by decide), fun h => absurd h (by decide), fun h => absurd h (by decide), fun h => absurd h (by decide)⟩
set_option maxRecDepth 100000 in
theorem x_pm88 : x_PM ((11, 167), 0, 109) := ⟨fun _ => ⟨rfl, by decide, (x_inw 774 rfl rfl), (x_inw 776 rfl rfl), (x_inw 47 rfl rfl), (x_inw 57 rfl rfl), by decide, by decide +kernel⟩, fun h => absurd h (by decide), fun h => absurd h (by decide), fun h => absurd h (by decide), fun h => absurd h (by decide)⟩
set_option maxRecDepth 100000 in
theorem x_pm89 : x_PM ((11, 170), 0, 111) := ⟨fun _ => ⟨rfl, by decide, (x_inw 782 rfl rfl), (x_inw 784 rfl rfl), (x_inw 48 rfl rfl), (x_inw 57 rfl rfl), by decide, by decide +kernel⟩, fun h => absurd h (by decide), fun h => absurd h (by decide), fun h => absurd h (by decide), fun h => absurd h (by decide)⟩
set_option maxRecDepth 100000 in
theorem x_pm90 : x_PM ((11, 174), 0, 115) := ⟨fun _ => ⟨rfl, by decide, (x_inw 798 rfl rfl), (x_inw 799 rfl rfl), (x_inw 800 rfl rfl), (x_inw 57 rfl rfl), by decide, by decide +kernel⟩, fun h => absurd h (by decide), fun h => absurd h (by decide), fun h => absurd h (by decide), fun h => absurd h (by decide)⟩
set_option maxRecDepth 100000 in
theorem x_pm91 : x_PM ((12, 1), 3, 999) := ⟨fun h => absurd h (by decide), fun h => absurd h (by decide), fun h => absurd h (by decide), fun _ => (x_inw 99 rfl rfl), fun h => absurd h (by decide)⟩
set_option maxRecDepth 100000 in
theorem x_pm92 : x_PM ((13, 9), 1, 0) := ⟨fun h => absurd h (by decide), fun _ => ⟨rfl, by decide, (x_inw 65 rfl rfl), (x_inw 66 rfl rfl), (x_inw 50 rfl rfl), rfl, rfl, by decide +kernel⟩, fun h => absurd h (by decide), fun h => absurd h (by decide), fun h => absurd h (by decide)⟩
set_option maxRecDepth 100000 in
theorem x_pm93 : x_PM ((13, 12), 1, 76) := ⟨fun h => absurd h (by decide), fun _ => ⟨rfl, by decide, (x_inw 553 rfl rfl), (x_inw 554 rfl rfl), (x_inw 57 rfl rfl), rfl, rfl, by decide +kernel⟩, fun h => absurd h (by decide), fun h => absurd h (by decide), fun h => absurd h (by decide)⟩
set_option maxRecDepth 100000 in
theorem x_pm94 : x_PM ((13, 13), 0, 11) := ⟨fun _ => ⟨rfl, by decide, (x_inw 246 rfl rfl), (x_inw 247 rfl rfl), (x_inw 248 rfl rfl), (x_inw 50 rfl rfl), by decide, by decide +kernel⟩, fun h => absurd h (by decide), fun h => absurd h (by decide), fun h => absurd h (by decide), fun h => absurd h (by decide)⟩
set_option maxRecDepth 100000 in
theorem x_pm95 : x_PM ((13, 17), 0, 80) := ⟨fun _ => ⟨rfl, by decide, (x_inw 659 rfl rfl), (x_inw 660 rfl rfl), (x_inw 661 rfl rfl), (x_inw 57 rfl rfl), by decide, by decide +kernel⟩, fun h => absurd h (by decide), fun h => absurd h (by decide), fun h => absurd h (by decide), fun h => absurd h (by decide)⟩
set_option maxRecDepth 100000 in
theorem x_pm96 : x_PM ((13, 18), 0, 25) := ⟨fun _ => ⟨rfl, by decide, (x_inw 359 rfl rfl), (x_inw 360 rfl rfl), (x_inw 361 rfl rfl), (x_inw 50 rfl rfl), by decide, by decide +kernel⟩, fun h => absurd h (by decide), fun h => absurd h (by decide), fun h => absurd h (by decide), fun h => absurd h (by decide)⟩
set_option maxRecDepth 100000 in
theorem x_pm97 : x_PM ((13, 21), 0, 88) := ⟨fun _ => ⟨rfl, by decide, (x_inw 690 rfl rfl), (x_inw 691 rfl rfl), (x_inw 692 rfl rfl), (x_inw 57 rfl rfl), by decide, by decide +kernel⟩, fun h => absurd h (by decide), fun h => absurd h (by decide), fun h => absurd h (by decide), fun h => absurd h (by decide)⟩
set_option maxRecDepth 100000 in
theorem x_pm98 : x_PM ((13, 22), 0, 26) := ⟨fun _ => ⟨rfl, by decide, (x_inw 363 rfl rfl), (x_inw 364 rfl rfl), (x_inw 365 rfl rfl), (x_inw 50 rfl rfl), by decide, by decide +kernel⟩, fun h => absurd h (by decide), fun h => absurd h (by decide), fun h => absurd h (by decide), fun h => absurd h (by decide)⟩
set_option maxRecDepth 100000 in
theorem x_pm99 : x_PM ((13, 26), 0, 89) := ⟨fun _ => ⟨rfl, by decide, (x_inw 694 rfl rfl), (x_inw 695 rfl rfl), (x_inw 696 rfl rfl), (x_inw 57 rfl rfl), by decide, by decide +kernel⟩, fun h => absurd h (by decide), fun h => absurd h (by decide), fun h => absurd h (by decide), fun h => absurd h (by decide)⟩
set_option maxRecDepth 100000 in
theorem x_pm100 : x_PM ((13, 27), 0, 27) := ⟨fun _ => ⟨rfl, by decide, (x_inw 367 rfl rfl), (x_inw 368 rfl rfl), (x_inw 369 rfl rfl), (x_inw 50 rfl rfl), by decide, by decide +kernel⟩, fun h => absurd h (by decide), fun h => absurd h (by decide), fun h => absurd h (by decide), fun h => absurd h (by decide)⟩
set_option maxRecDepth 100000 in
theorem x_pm101 : x_PM ((13, 31), 0, 90) := ⟨fun _ => ⟨rfl, by decide, (x_inw 698 rfl rfl), (x_inw 699 rfl rfl), (x_inw 700 rfl rfl), (x_inw 57 rfl rfl), by decide, by decide +kernel⟩, fun h => absurd h (by decide), fun h => absurd h (by decide), fun h => absurd h (by decide), fun h => absurd h (by decide)⟩
set_option maxRecDepth 100000 in
theorem x_pm102 : x_PM ((13, 32), 0, 40) := ⟨fun _ => ⟨rfl, by decide, (x_inw 415 rfl rfl), (x_inw 416 rfl rfl), (x_inw 417 rfl rfl), (x_inw 50 rfl rfl), by decide, by decide +kernel⟩, fun h => absurd h (by decide), fun h => absurd h (by decide), fun h => absurd h (by decide), fun h => absurd h (by decide)⟩
set_option maxRecDepth 100000 in
theorem x_pm103 : x_PM ((13, 35), 0, 94) := ⟨fun _ => ⟨rfl, by decide, (x_inw 714 rfl rfl), (x_inw 715 rfl rfl), (x_inw 716 rfl rfl), (x_inw 57 rfl rfl), by decide, by decide +kernel⟩, fun h => absurd h (by decide), fun h => absurd h (by decide), fun h => absurd h (by decide), fun h => absurd h (by decide)⟩
set_option maxRecDepth 100000 in
theorem x_pm104 : x_PM ((13, 36), 0, 42) := ⟨fun _ => ⟨rfl, by decide, (x_inw 422 rfl rfl), (x_inw 423 rfl rfl), (x_inw 424 rfl rfl), (x_inw 50 rfl rfl), by decide, by decide +kernel⟩, fun h => absurd h (by decide), fun h => absurd h (by decide), fun h => absurd h (by decide), fun h => absurd h (by decide)⟩
set_option maxRecDepth 100000 in
theorem x_pm105 : x_PM ((13, 39), 0, 95) := ⟨fun _ => ⟨rfl, by decide, (x_inw 718 rfl rfl), (x_inw 719 rfl rfl), (x_inw 720 rfl rfl), (x_inw 57 rfl rfl), by decide, by decide +kernel⟩, fun h => absurd h (by decide), fun h => absurd h (by decide), fun h => absurd h (by decide), fun h => absurd h (by decide)⟩
set_option maxRecDepth 100000 in
theorem x_pm106 : x_PM ((13, 40), 0, 47) := ⟨fun _ => ⟨rfl, by decide, (x_inw 442 rfl rfl), (x_inw 443 rfl rfl), (x_inw 444 rfl rfl), (x_inw 50 rfl rfl), by decide, by decide +kernel⟩, fun h => absurd h (by decide), fun h => absurd h (by decide), fun h => absurd h (by decide), fun h => absurd h (by decide)⟩
set_option maxRecDepth 100000 in
theorem x_pm107 : x_PM ((13, 44), 0, 96) := ⟨fun _ => ⟨rfl, by decide, (x_inw 722 rfl rfl), (x_inw 723 rfl rfl), (x_inw 724 rfl rfl), (x_inw 57 rfl rfl), by decide, by decide +kernel⟩, fun h => absurd h (by decide), fun h => absurd h (by decide), fun h => absurd h (by decide), fun h => absurd h (by decide)⟩
set_option maxRecDepth 100000 in
theorem x_pm108 : x_PM ((13, 45), 0, 48) := ⟨fun _ => ⟨rfl, by decide, (x_inw 446 rfl rfl), (x_inw 447 rfl rfl), (x_inw 448 rfl rfl), (x_inw 50 rfl rfl), by decide, by decide +kernel⟩, fun h => absurd h (by decide), fun h => absurd h (by decide), fun h => absurd h (by decide), fun h => absurd h (by decide)⟩
set_option maxRecDepth 100000 in
theorem x_pm109 : x_PM ((13, 49), 0, 97) := ⟨fun _ => ⟨rfl, by decide, (x_inw 726 rfl rfl), (x_inw 727 rfl rfl), (x_inw 728 rfl rfl), (x_inw 57 rfl rfl), by decide, by decide +kernel⟩, fun h => absurd h (by decide), fun h => absurd h (by decide), fun h => absurd h (by decide), fun h => absurd h (by decide)⟩
set_option maxRecDepth 100000 in
theorem x_pm110 : x_PM ((13, 50), 0, 53) := ⟨fun _ => ⟨rfl, by decide, (x_inw 464 rfl rfl), (x_inw 465 rfl rfl), (x_inw 466 rfl rfl), (x_inw 50 rfl rfl), by decide, by decide +kernel⟩, fun h => absurd h (by decide), fun h => absurd h (by decide), fun h => absurd h (by decide), fun h => absurd h (by decide)⟩
set_option maxRecDepth 100000 in
theorem x_pm111 : x_PM ((13, 54), 0, 101) := ⟨fun _ => ⟨rfl, by decide, (x_inw 742 rfl rfl), (x_inw 743 rfl rfl), (x_inw 744 rfl rfl), (x_inw 57 rfl rfl), by decide, by decide +kernel⟩, fun h => absurd h (by decide), fun h => absurd h (by decide), fun h => absurd h (by decide), fun h => absurd h (by decide)⟩
set_option maxRecDepth 100000 in
theorem x_pm112 : x_PM ((13, 55), 0, 54) := ⟨fun _ => ⟨rfl, by decide, (x_inw 468 rfl rfl), (x_inw 469 rfl rfl), (x_inw 470 rfl rfl), (x_inw 50 rfl rfl), by decide, by decide +kernel⟩, fun h => absurd h (by decide), fun h => absurd h (by decide), fun h => absurd h (by decide), fun h => absurd h (by decide)⟩
set_option maxRecDepth 100000 in
theorem x_pm113 : x_PM ((13, 58), 0, 102) := ⟨fun _ => ⟨rfl, by decide, (x_inw 746 rfl rfl), (x_inw 747 rfl rfl), (x_inw 748 rfl rfl), (x_inw 57 rfl rfl), by decide, by decide +kernel⟩, fun h => absurd h (by decide), fun h => absurd h (by decide), fun h => absurd h (by decide), fun h => absurd h (by decide)⟩
set_option maxRecDepth 100000 in
theorem x_pm114 : x_PM ((13, 59), 0, 57) := ⟨fun _ => ⟨rfl, by decide, (x_inw 480 rfl rfl), (x_inw 481 rfl rfl), (x_inw 482 rfl rfl), (x_inw 50 rfl rfl), by decide, by decide +kernel⟩, fun h => absurd h (by decide), fun h => absurd h (by decide), fun h => absurd h (by decide), fun h => absurd h (by decide)⟩
set_option maxRecDepth 100000 in
theorem x_pm115 : x_PM ((13, 62), 0, 105) := ⟨fun _ => ⟨rfl, by decide, (x_inw 758 rfl rfl), (x_inw 759 rfl rfl), (x_inw 760 rfl rfl), (x_inw 57 rfl rfl), by decide, by decide +kernel⟩, fun h => absurd h (by decide), fun h => absurd h (by decide), fun h => absurd h (by decide), fun h => absurd h (by decide)⟩
set_option maxRecDepth 100000 in
theorem x_pm116 : x_PM ((13, 63), 0, 58) := ⟨fun _ => ⟨rfl, by decide, (x_inw 484 rfl rfl), (x_inw 485 rfl rfl), (x_inw 486 rfl rfl), (x_inw 50 rfl rfl), by decide, by decide +kernel⟩, fun h => absurd h (by decide), fun h => absurd h (by decide), fun h => absurd h (by decide), fun h => absurd h (by decide)⟩
set_option maxRecDepth 100000 in
theorem x_pm117 : x_PM ((13, 67), 0, 106) := ⟨fun _ => ⟨rfl, by decide, (x_inw 762 rfl rfl), (x_inw 763 rfl rfl), (x_inw 764 rfl rfl), (x_inw 57 rfl rfl), by decide, by decide +kernel⟩, fun h => absurd h (by decide), fun h => absurd h (by decide), fun h => absurd h (by decide), fun h => absurd h (by decide)⟩
set_option maxRecDepth 100000 in
theorem x_pm118 : x_PM ((13, 68), 0, 62) := ⟨fun _ => ⟨rfl, by decide, (x_inw 498 rfl rfl), (x_inw 499 rfl rfl), (x_inw 500 rfl rfl), (x_inw 50 rfl rfl), by decide, by decide +kernel⟩, fun h => absurd h (by decide), fun h => absurd h (by decide), fun h => absurd h (by decide), fun h => absurd h (by decide)⟩
set_option maxRecDepth 100000 in
theorem x_pm119 : x_PM ((13, 71), 0, 110) := ⟨fun _ => ⟨rfl, by decide, (x_inw 778 rfl rfl), (x_inw 779 rfl rfl), (x_inw 780 rfl rfl), (x_inw 57 rfl rfl), by decide, by decide +kernel⟩, fun h => absurd h (by decide), fun h => absurd h (by decide), fun h => absurd h (by decide), fun h => absurd h (by decide)⟩
set_option maxRecDepth 100000 in
theorem x_pm120 : x_PM ((13, 72), 0, 64) := ⟨fun _ => ⟨rfl, by decide, (x_inw 505 rfl rfl), (x_inw 506 rfl rfl), (x_inw 507 rfl rfl), (x_inw 50 rfl rfl), by decide, by decide +kernel⟩, fun h => absurd h (by decide), fun h => absurd h (by decide), fun h => absurd h (by decide), fun h => absurd h (by decide)⟩
set_option maxRecDepth 100000 in
theorem x_pm121 : x_PM ((13, 75), 0, 112) := ⟨fun _ => ⟨rfl, by decide, (x_inw 786 rfl rfl), (x_inw 787 rfl rfl), (x_inw 788 rfl rfl), (x_inw 57 rfl rfl), by decide, by decide +kernel⟩, fun h => absurd h (by decide), fun h => absurd h (by decide), fun h => absurd h (by decide), fun h => absurd h (by decide)⟩
set_option maxRecDepth 100000 in
theorem x_pm122 : x_PM ((13, 76), 0, 66) := ⟨fun _ => ⟨rfl, by decide, (x_inw 513 rfl rfl), (x_inw 514 rfl rfl), (x_inw 515 rfl rfl), (x_inw 50 rfl rfl), by decide, by decide +kernel⟩, fun h => absurd h (by decide), fun h => absurd h (by decide), fun h => absurd h (by decide), fun h => absurd h (by decide)⟩
set_option maxRecDepth 100000 in
theorem x_pm123 : x_PM ((13, 79), 0, 113) := ⟨fun _ => ⟨rfl, by decide, (x_inw 790 rfl rfl), (x_inw 791 rfl rfl), (x_inw 792 rfl rfl), (x_inw 57 rfl rfl), by decide, by decide +kernel⟩, fun h => absurd h (by decide), fun h => absurd h (by decide), fun h => absurd h (by decide), fun h => absurd h (by decide)⟩
set_option maxRecDepth 100000 in
theorem x_pm124 : x_PM ((13, 80), 0, 67) := ⟨fun _ => ⟨rfl, by decide, (x_inw 517 rfl rfl), (x_inw 518 rfl rfl), (x_inw 519 rfl rfl), (x_inw 50 rfl rfl), by decide, by decide +kernel⟩, fun h => absurd h (by decide), fun h => absurd h (by decide), fun h => absurd h (by decide), fun h => absurd h (by decide)⟩
set_option maxRecDepth 100000 in
theorem x_pm125 : x_PM ((13, 84), 0, 114) := ⟨fun _ => ⟨rfl, by decide, (x_inw 794 rfl rfl), (x_inw 795 rfl rfl), (x_inw 796 rfl rfl), (x_inw 57 rfl rfl), by decide, by decide +kernel⟩, fun h => absurd h (by decide), fun h => absurd h (by decide), fun h => absurd h (by decide), fun h => absurd h (by decide)⟩
set_option maxRecDepth 100000 in
theorem x_pm126 : x_PM ((13, 85), 0, 69) := ⟨fun _ => ⟨rfl, by decide, (x_inw 524 rfl rfl), (x_inw 525 rfl rfl), (x_inw 526 rfl rfl), (x_inw 50 rfl rfl), by decide, by decide +kernel⟩, fun h => absurd h (by decide), fun h => absurd h (by decide), fun h => absurd h (by decide), fun h => absurd h (by decide)⟩
set_option maxRecDepth 100000 in
theorem x_pm127 : x_PM ((13, 88), 0, 115) := ⟨fun _ => ⟨rfl, by decide, (x_inw 802 rfl rfl), (x_inw 799 rfl rfl), (x_inw 800 rfl rfl), (x_inw 57 rfl rfl), by decide, by decide +kernel⟩, fun h => absurd h (by decide), fun h => absurd h (by decide), fun h => absurd h (by decide), fun h => absurd h (by decide)⟩
set_option maxRecDepth 100000 in
theorem x_pm128 : x_PM ((13, 89), 0, 70) := ⟨fun _ => ⟨rfl, by decide, (x_inw 528 rfl rfl), (x_inw 529 rfl rfl), (x_inw 530 rfl rfl), (x_inw 50 rfl rfl), by decide, by decide +kernel⟩, fun h => absurd h (by decide), fun h => absurd h (by decide), fun h => absurd h (by decide), fun h => absurd h (by decide)⟩
set_option maxRecDepth 100000 in
theorem x_pm129 : x_PM ((13, 92), 0, 116) := ⟨fun _ => ⟨rfl, by decide, (x_inw 803 rfl rfl), (x_inw 804 rfl rfl), (x_inw 805 rfl rfl), (x_inw 57 rfl rfl), by decide, by decide +kernel⟩, fun h => absurd h (by decide), fun h => absurd h (by decide), fun h => absurd h (by decide), fun h => absurd h (by decide)⟩
set_option maxRecDepth 100000 in
theorem x_pm130 : x_PM ((13, 93), 0, 73) := ⟨fun _ => ⟨rfl, by decide, (x_inw 539 rfl rfl), (x_inw 540 rfl rfl), (x_inw 541 rfl rfl), (x_inw 50 rfl rfl), by decide, by decide +kernel⟩, fun h => absurd h (by decide), fun h => absurd h (by decide), fun h => absurd h (by decide), fun h => absurd h (by decide)⟩
set_option maxRecDepth 100000 in
theorem x_pm131 : x_PM ((13, 96), 0, 117) := ⟨fun _ => ⟨rfl, by decide, (x_inw 807 rfl rfl), (x_inw 808 rfl rfl), (x_inw 809 rfl rfl), (x_inw 57 rfl rfl), by decide, by decide +kernel⟩, fun h => absurd h (by decide), fun h => absurd h (by decide), fun h => absurd h (by decide), fun h => absurd h (by decide)⟩
set_option maxRecDepth 100000 in
theorem x_pm132 : x_PM ((13, 97), 0, 75) := ⟨fun _ => ⟨rfl, by decide, (x_inw 547 rfl rfl), (x_inw 548 rfl rfl), (x_inw 549 rfl rfl), (x_inw 50 rfl rfl), by decide, by decide +kernel⟩, fun h => absurd h (by decide), fun h => absurd h (by decide), fun h => absurd h (by decide), fun h => absurd h (by decide)⟩
set_option maxRecDepth 100000 in
theorem x_pm133 : x_PM ((13, 100), 0, 118) := ⟨fun _ => ⟨rfl, by decide, (x_inw 811 rfl rfl), (x_inw 812 rfl rfl), (x_inw 813 rfl rfl), (x_inw 57 rfl rfl), by decide, by decide +kernel⟩, fun h => absurd h (by decide), fun h => absurd h (by decide), fun h => absurd h (by decide), fun h => absurd h (by decide)⟩
set_option maxRecDepth 100000 in
theorem x_pm_all : ∀ q ∈ x_ML, x_PM q := List.forall_mem_cons.mpr ⟨x_pm0, List.forall_mem_cons.mpr ⟨x_pm1, List.forall_mem_cons.mpr ⟨x_pm2, List.forall_mem_cons.mpr ⟨x_pm3, List.forall_mem_cons.mpr ⟨x_pm4, List.forall_mem_cons.mpr ⟨x_pm5, List.forall_mem_cons.mpr ⟨x_pm6, List.forall_mem_cons.mpr ⟨x_pm7, List.forall_mem_cons.mpr ⟨x_pm8, List.forall_mem_cons.mpr ⟨x_pm9, List.forall_mem_cons.mpr ⟨x_pm10, List.forall_mem_cons.mpr ⟨x_pm11, List.forall_mem_cons.mpr ⟨x_pm12, List.forall_mem_cons.mpr ⟨x_pm13, List.forall_mem_cons.mpr ⟨x_pm14, List.forall_mem_cons.mpr ⟨x_pm15, List.forall_mem_cons.mpr ⟨x_pm16, List.forall_mem_cons.mpr ⟨x_pm17, List.forall_mem_cons.mpr ⟨x_pm18, List.forall_mem_cons.mpr ⟨x_pm19, List.forall_mem_cons.mpr ⟨x_pm20, List.forall_mem_cons.mpr ⟨x_pm21, List.forall_mem_cons.mpr ⟨x_pm22, List.forall_mem_cons.mpr ⟨x_pm23, List.forall_mem_cons.mpr ⟨x_pm24, List.forall_mem_cons.mpr ⟨x_pm25, List.forall_mem_cons.mpr ⟨x_pm26, List.forall_mem_cons.mpr ⟨x_pm27, List.forall_mem_cons.mpr ⟨x_pm28, List.forall_mem_cons.mpr ⟨x_pm29, List.forall_mem_cons.mpr ⟨x_pm30, List.forall_mem_cons.mpr ⟨x_pm31, List.forall_mem_cons.mpr ⟨x_pm32, List.forall_mem_cons.mpr ⟨x_pm33, List.forall_mem_cons.mpr ⟨x_pm34, List.forall_mem_cons.mpr ⟨x_pm35, List.forall_mem_cons.mpr ⟨x_pm36, List.forall_mem_cons.mpr ⟨x_pm37, List.forall_mem_cons.mpr ⟨x_pm38, List.forall_mem_cons.mpr ⟨x_pm39, List.forall_mem_cons.mpr ⟨x_pm40, List.forall_mem_cons.mpr ⟨x_pm41, List.forall_mem_cons.mpr ⟨x_pm42, List.forall_mem_cons.mpr ⟨x_pm43, List.forall_mem_cons.mpr ⟨x_pm44, List.forall_mem_cons.mpr ⟨x_pm45, List.forall_mem_cons.mpr ⟨x_pm46, List.forall_mem_cons.mpr ⟨x_pm47, List.forall_mem_cons.mpr ⟨x_pm48, List.forall_mem_cons.mpr ⟨x_pm49, List.forall_mem_cons.mpr ⟨x_pm50, List.forall_mem_cons.mpr ⟨x_pm51, List.forall_mem_cons.mpr ⟨x_pm52, List.forall_mem_cons.mpr ⟨x_pm53, List.forall_mem_cons.mpr ⟨x_pm54, List.forall_mem_cons.mpr ⟨x_pm55, List.forall_mem_cons.mpr ⟨x_pm56, List.forall_mem_cons.mpr ⟨x_pm57, List.forall_mem_cons.mpr ⟨x_pm58, List.forall_mem_cons.mpr ⟨x_pm59, List.forall_mem_cons.mpr ⟨x_pm60, List.forall_mem_cons.mpr ⟨x_pm61, List.forall_mem_cons.mpr ⟨x_pm62, List.forall_mem_cons.mpr ⟨x_pm63, List.forall_mem_cons.mpr ⟨x_pm64, List.forall_mem_cons.mpr ⟨x_pm65, List.forall_mem_cons.mpr ⟨x_pm66, List.forall_mem_cons.mpr ⟨x_pm67, List.forall_mem_cons.mpr ⟨x_pm68, List.forall_mem_cons.mpr ⟨x_pm69, List.forall_mem_cons.mpr ⟨x_pm70, List.forall_mem_cons.mpr ⟨x_pm71, List.forall_mem_cons.mpr ⟨x_pm72, List.forall_mem_cons.mpr ⟨x_pm73, List.forall_mem_cons.mpr ⟨x_pm74, List.forall_mem_cons.mpr ⟨x_pm75, List.forall_mem_cons.mpr ⟨x_pm76, List.forall_mem_cons.mpr ⟨x_pm77, List.forall_mem_cons.mpr ⟨x_pm78, List.forall_mem_cons.mpr ⟨x_pm79, List.forall_mem_cons.mpr ⟨x_pm80, List.forall_mem_cons.mpr ⟨x_pm81, List.forall_mem_cons.mpr ⟨x_pm82, List.forall_mem_cons.mpr ⟨x_pm83, List.forall_mem_cons.mpr ⟨x_pm84, List.forall_mem_cons.mpr ⟨x_pm85, List.forall_mem_cons.mpr ⟨x_pm86, List.forall_mem_cons.mpr ⟨x_pm87, List.forall_mem_cons.mpr ⟨x_pm88, List.forall_mem_cons.mpr ⟨x_pm89, List.forall_mem_cons.mpr ⟨x_pm90, List.forall_mem_cons.mpr ⟨x_pm91, List.forall_mem_cons.mpr ⟨x_pm92, List.forall_mem_cons.mpr ⟨x_pm93, List.forall_mem_cons.mpr ⟨x_pm94, List.forall_mem_cons.mpr ⟨x_pm95, List.forall_mem_cons.mpr ⟨x_pm96, List.forall_mem_cons.mpr ⟨x_pm97, List.forall_mem_cons.mpr ⟨x_pm98, List.forall_mem_cons.mpr ⟨x_pm99, List.forall_mem_cons.mpr ⟨x_pm100, List.forall_mem_cons.mpr ⟨x_pm101, List.forall_mem_cons.mpr ⟨x_pm102, List.forall_mem_cons.mpr ⟨x_pm103, List.forall_mem_cons.mpr ⟨x_pm104, List.forall_mem_cons.mpr ⟨x_pm105, List.forall_mem_cons.mpr ⟨x_pm106, List.forall_mem_cons.mpr ⟨x_pm107, List.forall_mem_cons.mpr ⟨x_pm108, List.forall_mem_cons.mpr ⟨x_pm109, List.forall_mem_cons.mpr ⟨x_pm110, List.forall_mem_cons.mpr ⟨x_pm111, List.forall_mem_cons.mpr ⟨x_pm112, List.forall_mem_cons.mpr ⟨x_pm113, List.forall_mem_cons.mpr ⟨x_pm114, List.forall_mem_cons.mpr ⟨x_pm115, List.forall_mem_cons.mpr ⟨x_pm116, List.forall_mem_cons.mpr ⟨x_pm117, List.forall_mem_cons.mpr ⟨x_pm118, List.forall_mem_cons.mpr ⟨x_pm119, List.forall_mem_cons.mpr ⟨x_pm120, List.forall_mem_cons.mpr ⟨x_pm121, List.forall_mem_cons.mpr ⟨x_pm122, List.forall_mem_cons.mpr ⟨x_pm123, List.forall_mem_cons.mpr ⟨x_pm124, List.forall_mem_cons.mpr ⟨x_pm125, List.forall_mem_cons.mpr ⟨x_pm126, List.forall_mem_cons.mpr ⟨x_pm127, List.forall_mem_cons.mpr ⟨x_pm128, List.forall_mem_cons.mpr ⟨x_pm129, List.forall_mem_cons.mpr ⟨x_pm130, List.forall_mem_cons.mpr ⟨x_pm131, List.forall_mem_cons.mpr ⟨x_pm132, List.forall_mem_cons.mpr ⟨x_pm133, fun _ h => absurd h List.not_mem_nil⟩⟩⟩⟩⟩⟩⟩⟩⟩⟩⟩⟩⟩⟩⟩⟩⟩⟩⟩⟩⟩⟩⟩⟩⟩⟩⟩⟩⟩⟩⟩⟩⟩⟩⟩⟩⟩⟩⟩⟩⟩⟩⟩⟩⟩⟩⟩⟩⟩⟩⟩⟩⟩⟩⟩⟩⟩⟩⟩⟩⟩⟩⟩⟩⟩⟩⟩⟩⟩⟩⟩⟩⟩⟩⟩⟩⟩⟩⟩⟩⟩⟩⟩⟩⟩⟩⟩⟩⟩⟩⟩⟩⟩⟩⟩⟩⟩⟩⟩⟩⟩⟩⟩⟩⟩⟩⟩⟩⟩⟩⟩⟩⟩⟩⟩⟩⟩⟩⟩⟩⟩⟩⟩⟩⟩⟩⟩⟩⟩⟩⟩⟩⟩⟩
set_option maxRecDepth 100000 in
theorem x_cw0 : Cond.code (xm_y 0) (xm_b 0) (xm_max 0) (xm_rt 0) ∈ x_GW := x_inw 67 rfl rfl
set_option maxRecDepth 100000 in
theorem x_cw1 : Cond.code (xm_y 1) (xm_b 1) (xm_max 1) (xm_rt 1) ∈ x_GW := x_inw 82 rfl rfl
set_option maxRecDepth 100000 in
theorem x_cw2 : Cond.code (xm_y 2) (xm_b 2) (xm_max 2) (xm_rt 2) ∈ x_GW := x_inw 95 rfl rfl
set_option maxRecDepth 100000 in
theorem x_cw3 : Cond.code (xm_y 3) (xm_b 3) (xm_max 3) (xm_rt 3) ∈ x_GW := x_inw 98 rfl rfl
set_option maxRecDepth 100000 in
theorem x_cw4 : Cond.code (xm_y 4) (xm_b 4) (xm_max 4) (xm_rt 4) ∈ x_GW := x_inw 118 rfl rfl
set_option maxRecDepth 100000 in
theorem x_cw5 : Cond.code (xm_y 5) (xm_b 5) (xm_max 5) (xm_rt 5) ∈ x_GW := x_inw 172 rfl rfl
set_option maxRecDepth 100000 in
theorem x_cw6 : Cond.code (xm_y 6) (xm_b 6) (xm_max 6) (xm_rt 6) ∈ x_GW := x_inw 175 rfl rfl
set_option maxRecDepth 100000 in
theorem x_cw7 : Cond.code (xm_y 7) (xm_b 7) (xm_max 7) (xm_rt 7) ∈ x_GW := x_inw 178 rfl rfl
set_option maxRecDepth 100000 in
theorem x_cw8 : Cond.code (xm_y 8) (xm_b 8) (xm_max 8) (xm_rt 8) ∈ x_GW := x_inw 182 rfl rfl
set_option maxRecDepth 100000 in
theorem x_cw9 : Cond.code (xm_y 9) (xm_b 9) (xm_max 9) (xm_rt 9) ∈ x_GW := x_inw 216 rfl rfl
set_option maxRecDepth 100000 in
theorem x_cw10 : Cond.code (xm_y 10) (xm_b 10) (xm_max 10) (xm_rt 10) ∈ x_GW := x_inw 221 rfl rfl
set_option maxRecDepth 100000 in
theorem x_cw11 : Cond.code (xm_y 11) (xm_b 11) (xm_max 11) (xm_rt 11) ∈ x_GW := x_inw 249 rfl rfl
set_option maxRecDepth 100000 in
theorem x_cw12 : Cond.code (xm_y 12) (xm_b 12) (xm_max 12) (xm_rt 12) ∈ x_GW := x_inw 253 rfl rfl
set_option maxRecDepth 100000 in
theorem x_cw13 : Cond.code (xm_y 13) (xm_b 13) (xm_max 13) (xm_rt 13) ∈ x_GW := x_inw 257 rfl rfl
set_option maxRecDepth 100000 in
theorem x_cw14 : Cond.code (xm_y 14) (xm_b 14) (xm_max 14) (xm_rt 14) ∈ x_GW := x_inw 261 rfl rfl
set_option maxRecDepth 100000 in
theorem x_cw15 : Cond.code (xm_y 15) (xm_b 15) (xm_max 15) (xm_rt 15) ∈ x_GW := x_inw 265 rfl rfl
set_option maxRecDepth 100000 in
theorem x_cw16 : Cond.code (xm_y 16) (xm_b 16) (xm_max 16) (xm_rt 16) ∈ x_GW := x_inw 271 rfl rfl
set_option maxRecDepth 100000 in
theorem x_cw17 : Cond.code (xm_y 17) (xm_b 17) (xm_max 17) (xm_rt 17) ∈ x_GW := x_inw 275 rfl rfl
set_option maxRecDepth 100000 in
theorem x_cw18 : Cond.code (xm_y 18) (xm_b 18) (xm_max 18) (xm_rt 18) ∈ x_GW := x_inw 278 rfl rfl
set_option maxRecDepth 100000 in
theorem x_cw19 : Cond.code (xm_y 19) (xm_b 19) (xm_max 19) (xm_rt 19) ∈ x_GW := x_inw 282 rfl rfl
set_option maxRecDepth 100000 in
theorem x_cw20 : Cond.code (xm_y 20) (xm_b 20) (xm_max 20) (xm_rt 20) ∈ x_GW := x_inw 287 rfl rfl
set_option maxRecDepth 100000 in
theorem x_cw21 : Cond.code (xm_y 21) (xm_b 21) (xm_max 21) (xm_rt 21) ∈ x_GW := x_inw 301 rfl rfl
set_option maxRecDepth 100000 in
theorem x_cw22 : Cond.code (xm_y 22) (xm_b 22) (xm_max 22) (xm_rt 22) ∈ x_GW := x_inw 319 rfl rfl
set_option maxRecDepth 100000 in
theorem x_cw23 : Cond.code (xm_y 23) (xm_b 23) (xm_max 23) (xm_rt 23) ∈ x_GW := x_inw 334 rfl rfl
set_option maxRecDepth 100000 in
theorem x_cw24 : Cond.code (xm_y 24) (xm_b 24) (xm_max 24) (xm_rt 24) ∈ x_GW := x_inw 354 rfl rfl
set_option maxRecDepth 100000 in
theorem x_cw25 : Cond.code (xm_y 25) (xm_b 25) (xm_max 25) (xm_rt 25) ∈ x_GW := x_inw 362 rfl rfl
set_option maxRecDepth 100000 in
theorem x_cw26 : Cond.code (xm_y 26) (xm_b 26) (xm_max 26) (xm_rt 26) ∈ x_GW := x_inw 366 rfl rfl
set_option maxRecDepth 100000 in
theorem x_cw27 : Cond.code (xm_y 27) (xm_b 27) (xm_max 27) (xm_rt 27) ∈ x_GW := x_inw 370 rfl rfl
set_option maxRecDepth 100000 in
theorem x_cw28 : Cond.code (xm_y 28) (xm_b 28) (xm_max 28) (xm_rt 28) ∈ x_GW := x_inw 374 rfl rfl
set_option maxRecDepth 100000 in
theorem x_cw29 : Cond.code (xm_y 29) (xm_b 29) (xm_max 29) (xm_rt 29) ∈ x_GW := x_inw 378 rfl rfl
set_option maxRecDepth 100000 in
theorem x_cw30 : Cond.code (xm_y 30) (xm_b 30) (xm_max 30) (xm_rt 30) ∈ x_GW := x_inw 381 rfl rfl
set_option maxRecDepth 100000 in
theorem x_cw31 : Cond.code (xm_y 31) (xm_b 31) (xm_max 31) (xm_rt 31) ∈ x_GW := x_inw 385 rfl rfl
set_option maxRecDepth 100000 in
theorem x_cw32 : Cond.code (xm_y 32) (xm_b 32) (xm_max 32) (xm_rt 32) ∈ x_GW := x_inw 389 rfl rfl
set_option maxRecDepth 100000 in
theorem x_cw33 : Cond.code (xm_y 33) (xm_b 33) (xm_max 33) (xm_rt 33) ∈ x_GW := x_inw 393 rfl rfl
set_option maxRecDepth 100000 in
theorem x_cw34 : Cond.code (xm_y 34) (xm_b 34) (xm_max 34) (xm_rt 34) ∈ x_GW := x_inw 397 rfl rfl
set_option maxRecDepth 100000 in
theorem x_cw35 : Cond.code (xm_y 35) (xm_b 35) (xm_max 35) (xm_rt 35) ∈ x_GW := x_inw 400 rfl rfl
set_option maxRecDepth 100000 in
theorem x_cw36 : Cond.code (xm_y 36) (xm_b 36) (xm_max 36) (xm_rt 36) ∈ x_GW := x_inw 404 rfl rfl
set_option maxRecDepth 100000 in
theorem x_cw37 : Cond.code (xm_y 37) (xm_b 37) (xm_max 37) (xm_rt 37) ∈ x_GW := x_inw 408 rfl rfl
set_option maxRecDepth 100000 in
theorem x_cw38 : Cond.code (xm_y 38) (xm_b 38) (xm_max 38) (xm_rt 38) ∈ x_GW := x_inw 411 rfl rfl
set_option maxRecDepth 100000 in
theorem x_cw39 : Cond.code (xm_y 39) (xm_b 39) (xm_max 39) (xm_rt 39) ∈ x_GW := x_inw 414 rfl rfl
set_option maxRecDepth 100000 in
theorem x_cw40 : Cond.code (xm_y 40) (xm_b 40) (xm_max 40) (xm_rt 40) ∈ x_GW := x_inw 418 rfl rfl
set_option maxRecDepth 100000 in
theorem x_cw41 : Cond.code (xm_y 41) (xm_b 41) (xm_max 41) (xm_rt 41) ∈ x_GW := x_inw 421 rfl rfl
set_option maxRecDepth 100000 in
theorem x_cw42 : Cond.code (xm_y 42) (xm_b 42) (xm_max 42) (xm_rt 42) ∈ x_GW := x_inw 425 rfl rfl
set_option maxRecDepth 100000 in
theorem x_cw43 : Cond.code (xm_y 43) (xm_b 43) (xm_max 43) (xm_rt 43) ∈ x_GW := x_inw 429 rfl rfl
set_option maxRecDepth 100000 in
theorem x_cw44 : Cond.code (xm_y 44) (xm_b 44) (xm_max 44) (xm_rt 44) ∈ x_GW := x_inw 433 rfl rfl
set_option maxRecDepth 100000 in
theorem x_cw45 : Cond.code (xm_y 45) (xm_b 45) (xm_max 45) (xm_rt 45) ∈ x_GW := x_inw 437 rfl rfl
set_option maxRecDepth 100000 in
theorem x_cw46 : Cond.code (xm_y 46) (xm_b 46) (xm_max 46) (xm_rt 46) ∈ x_GW := x_inw 441 rfl rfl
set_option maxRecDepth 100000 in
theorem x_cw47 : Cond.code (xm_y 47) (xm_b 47) (xm_max 47) (xm_rt 47) ∈ x_GW := x_inw 445 rfl rfl
set_option maxRecDepth 100000 in
theorem x_cw48 : Cond.code (xm_y 48) (xm_b 48) (xm_max 48) (xm_rt 48) ∈ x_GW := x_inw 449 rfl rfl
set_option maxRecDepth 100000 in
theorem x_cw49 : Cond.code (xm_y 49) (xm_b 49) (xm_max 49) (xm_rt 49) ∈ x_GW := x_inw 452 rfl rfl
set_option maxRecDepth 100000 in
theorem x_cw50 : Cond.code (xm_y 50) (xm_b 50) (xm_max 50) (xm_rt 50) ∈ x_GW := x_inw 455 rfl rfl
set_option maxRecDepth 100000 in
theorem x_cw51 : Cond.code (xm_y 51) (xm_b 51) (xm_max 51) (xm_rt 51) ∈ x_GW := x_inw 459 rfl rfl
set_option maxRecDepth 100000 in
theorem x_cw52 : Cond.code (xm_y 52) (xm_b 52) (xm_max 52) (xm_rt 52) ∈ x_GW := x_inw 463 rfl rfl
set_option maxRecDepth 100000 in
theorem x_cw53 : Cond.code (xm_y 53) (xm_b 53) (xm_max 53) (xm_rt 53) ∈ x_GW := x_inw 467 rfl rfl
set_option maxRecDepth 100000 in
theorem x_cw54 : Cond.code (xm_y 54) (xm_b 54) (xm_max 54) (xm_rt 54) ∈ x_GW := x_inw 471 rfl rfl
set_option maxRecDepth 100000 in
theorem x_cw55 : Cond.code (xm_y 55) (xm_b 55) (xm_max 55) (xm_rt 55) ∈ x_GW := x_inw 475 rfl rfl
set_option maxRecDepth 100000 in
theorem x_cw56 : Cond.code (xm_y 56) (xm_b 56) (xm_max 56) (xm_rt 56) ∈ x_GW := x_inw 479 rfl rfl
set_option maxRecDepth 100000 in
theorem x_cw57 : Cond.code (xm_y 57) (xm_b 57) (xm_max 57) (xm_rt 57) ∈ x_GW := x_inw 483 rfl rfl
set_option maxRecDepth 100000 in
theorem x_cw58 : Cond.code (xm_y 58) (xm_b 58) (xm_max 58) (xm_rt 58) ∈ x_GW := x_inw 487 rfl rfl
set_option maxRecDepth 100000 in
theorem x_cw59 : Cond.code (xm_y 59) (xm_b 59) (xm_max 59) (xm_rt 59) ∈ x_GW := x_inw 491 rfl rfl
set_option maxRecDepth 100000 in
theorem x_cw60 : Cond.code (xm_y 60) (xm_b 60) (xm_max 60) (xm_rt 60) ∈ x_GW := x_inw 494 rfl rfl
set_option maxRecDepth 100000 in
theorem x_cw61 : Cond.code (xm_y 61) (xm_b 61) (xm_max 61) (xm_rt 61) ∈ x_GW := x_inw 497 rfl rfl
set_option maxRecDepth 100000 in
theorem x_cw62 : Cond.code (xm_y 62) (xm_b 62) (xm_max 62) (xm_rt 62) ∈ x_GW := x_inw 501 rfl rfl
set_option maxRecDepth 100000 in
theorem x_cw63 : Cond.code (xm_y 63) (xm_b 63) (xm_max 63) (xm_rt 63) ∈ x_GW := x_inw 504 rfl rfl
set_option maxRecDepth 100000 in
theorem x_cw64 : Cond.code (xm_y 64) (xm_b 64) (xm_max 64) (xm_rt 64) ∈ x_GW := x_inw 508 rfl rfl
set_option maxRecDepth 100000 in
theorem x_cw65 : Cond.code (xm_y 65) (xm_b 65) (xm_max 65) (xm_rt 65) ∈ x_GW := x_inw 512 rfl rfl
set_option maxRecDepth 100000 in
theorem x_cw66 : Cond.code (xm_y 66) (xm_b 66) (xm_max 66) (xm_rt 66) ∈ x_GW := x_inw 516 rfl rfl
set_option maxRecDepth 100000 in
theorem x_cw67 : Cond.code (xm_y 67) (xm_b 67) (xm_max 67) (xm_rt 67) ∈ x_GW := x_inw 520 rfl rfl
set_option maxRecDepth 100000 in
theorem x_cw68 : Cond.code (xm_y 68) (xm_b 68) (xm_max 68) (xm_rt 68) ∈ x_GW := x_inw 523 rfl rfl
set_option maxRecDepth 100000 in
theorem x_cw69 : Cond.code (xm_y 69) (xm_b 69) (xm_max 69) (xm_rt 69) ∈ x_GW := x_inw 527 rfl rfl
set_option maxRecDepth 100000 in
theorem x_cw70 : Cond.code (xm_y 70) (xm_b 70) (xm_max 70) (xm_rt 70) ∈ x_GW := x_inw 531 rfl rfl
set_option maxRecDepth 100000 in
theorem x_cw71 : Cond.code (xm_y 71) (xm_b 71) (xm_max 71) (xm_rt 71) ∈ x_GW := x_inw 534 rfl rfl
set_option maxRecDepth 100000 in
theorem x_cw72 : Cond.code (xm_y 72) (xm_b 72) (xm_max 72) (xm_rt 72) ∈ x_GW := x_inw 538 rfl rfl
set_option maxRecDepth 100000 in
theorem x_cw73 : Cond.code (xm_y 73) (xm_b 73) (xm_max 73) (xm_rt 73) ∈ x_GW := x_inw 542 rfl rfl
set_option maxRecDepth 100000 in
theorem x_cw74 : Cond.code (xm_y 74) (xm_b 74) (xm_max 74) (xm_rt 74) ∈ x_GW := x_inw 546 rfl rfl
set_option maxRecDepth 100000 in
theorem x_cw75 : Cond.code (xm_y 75) (xm_b 75) (xm_max 75) (xm_rt 75) ∈ x_GW := x_inw 550 rfl rfl
set_option maxRecDepth 100000 in
theorem x_cw76 : Cond.code (xm_y 76) (xm_b 76) (xm_max 76) (xm_rt 76) ∈ x_GW := x_inw 555 rfl rfl
set_option maxRecDepth 100000 in
theorem x_cw77 : Cond.code (xm_y 77) (xm_b 77) (xm_max 77) (xm_rt 77) ∈ x_GW := x_inw 560 rfl rfl
set_option maxRecDepth 100000 in
theorem x_cw78 : Cond.code (xm_y 78) (xm_b 78) (xm_max 78) (xm_rt 78) ∈ x_GW := x_inw 564 rfl rfl
set_option maxRecDepth 100000 in
theorem x_cw79 : Cond.code (xm_y 79) (xm_b 79) (xm_max 79) (xm_rt 79) ∈ x_GW := x_inw 568 rfl rfl
set_option maxRecDepth 100000 in
theorem x_cw80 : Cond.code (xm_y 80) (xm_b 80) (xm_max 80) (xm_rt 80) ∈ x_GW := x_inw 662 rfl rfl
set_option maxRecDepth 100000 in
theorem x_cw81 : Cond.code (xm_y 81) (xm_b 81) (xm_max 81) (xm_rt 81) ∈ x_GW := x_inw 666 rfl rfl
set_option maxRecDepth 100000 in
theorem x_cw82 : Cond.code (xm_y 82) (xm_b 82) (xm_max 82) (xm_rt 82) ∈ x_GW := x_inw 670 rfl rfl
set_option maxRecDepth 100000 in
theorem x_cw83 : Cond.code (xm_y 83) (xm_b 83) (xm_max 83) (xm_rt 83) ∈ x_GW := x_inw 674 rfl rfl
set_option maxRecDepth 100000 in
theorem x_cw84 : Cond.code (xm_y 84) (xm_b 84) (xm_max 84) (xm_rt 84) ∈ x_GW := x_inw 678 rfl rfl
set_option maxRecDepth 100000 in
theorem x_cw85 : Cond.code (xm_y 85) (xm_b 85) (xm_max 85) (xm_rt 85) ∈ x_GW := x_inw 681 rfl rfl
set_option maxRecDepth 100000 in
theorem x_cw86 : Cond.code (xm_y 86) (xm_b 86) (xm_max 86) (xm_rt 86) ∈ x_GW := x_inw 685 rfl rfl
set_option maxRecDepth 100000 in
theorem x_cw87 : Cond.code (xm_y 87) (xm_b 87) (xm_max 87) (xm_rt 87) ∈ x_GW := x_inw 689 rfl rfl
set_option maxRecDepth 100000 in
theorem x_cw88 : Cond.code (xm_y 88) (xm_b 88) (xm_max 88) (xm_rt 88) ∈ x_GW := x_inw 693 rfl rfl
set_option maxRecDepth 100000 in
theorem x_cw89 : Cond.code (xm_y 89) (xm_b 89) (xm_max 89) (xm_rt 89) ∈ x_GW := x_inw 697 rfl rfl
set_option maxRecDepth 100000 in
theorem x_cw90 : Cond.code (xm_y 90) (xm_b 90) (xm_max 90) (xm_rt 90) ∈ x_GW := x_inw 701 rfl rfl
set_option maxRecDepth 100000 in
theorem x_cw91 : Cond.code (xm_y 91) (xm_b 91) (xm_max 91) (xm_rt 91) ∈ x_GW := x_inw 705 rfl rfl
set_option maxRecDepth 100000 in
theorem x_cw92 : Cond.code (xm_y 92) (xm_b 92) (xm_max 92) (xm_rt 92) ∈ x_GW := x_inw 709 rfl rfl
set_option maxRecDepth 100000 in
theorem x_cw93 : Cond.code (xm_y 93) (xm_b 93) (xm_max 93) (xm_rt 93) ∈ x_GW := x_inw 713 rfl rfl
set_option maxRecDepth 100000 in
theorem x_cw94 : Cond.code (xm_y 94) (xm_b 94) (xm_max 94) (xm_rt 94) ∈ x_GW := x_inw 717 rfl rfl
set_option maxRecDepth 100000 in
theorem x_cw95 : Cond.code (xm_y 95) (xm_b 95) (xm_max 95) (xm_rt 95) ∈ x_GW := x_inw 721 rfl rfl
set_option maxRecDepth 100000 in
theorem x_cw96 : Cond.code (xm_y 96) (xm_b 96) (xm_max 96) (xm_rt 96) ∈ x_GW := x_inw 725 rfl rfl
set_option maxRecDepth 100000 in
theorem x_cw97 : Cond.code (xm_y 97) (xm_b 97) (xm_max 97) (xm_rt 97) ∈ x_GW := x_inw 729 rfl rfl
set_option maxRecDepth 100000 in
theorem x_cw98 : Cond.code (xm_y 98) (xm_b 98) (xm_max 98) (xm_rt 98) ∈ x_GW := x_inw 733 rfl rfl
set_option maxRecDepth 100000 in
theorem x_cw99 : Cond.code (xm_y 99) (xm_b 99) (xm_max 99) (xm_rt 99) ∈ x_GW := x_inw 737 rfl rfl
set_option maxRecDepth 100000 in
theorem x_cw100 : Cond.code (xm_y 100) (xm_b 100) (xm_max 100) (xm_rt 100) ∈ x_GW := x_inw 741 rfl rfl
set_option maxRecDepth 100000 in
theorem x_cw101 : Cond.code (xm_y 101) (xm_b 101) (xm_max 101) (xm_rt 101) ∈ x_GW := x_inw 745 rfl rfl
set_option maxRecDepth 100000 in
theorem x_cw102 : Cond.code (xm_y 102) (xm_b 102) (xm_max 102) (xm_rt 102) ∈ x_GW := x_inw 749 rfl rfl
set_option maxRecDepth 100000 in
theorem x_cw103 : Cond.code (xm_y 103) (xm_b 103) (xm_max 103) (xm_rt 103) ∈ x_GW := x_inw 753 rfl rfl
set_option maxRecDepth 100000 in
theorem x_cw104 : Cond.code (xm_y 104) (xm_b 104) (xm_max 104) (xm_rt 104) ∈ x_GW := x_inw 757 rfl rfl
set_option maxRecDepth 100000 in
theorem x_cw105 : Cond.code (xm_y 105) (xm_b 105) (xm_max 105) (xm_rt 105) ∈ x_GW := x_inw 761 rfl rfl
set_option maxRecDepth 100000 in
theorem x_cw106 : Cond.code (xm_y 106) (xm_b 106) (xm_max 106) (xm_rt 106) ∈ x_GW := x_inw 765 rfl rfl
set_option maxRecDepth 100000 in
theorem x_cw107 : Cond.code (xm_y 107) (xm_b 107) (xm_max 107) (xm_rt 107) ∈ x_GW := x_inw 769 rfl rfl
set_option maxRecDepth 100000 in
theorem x_cw108 : Cond.code (xm_y 108) (xm_b 108) (xm_max 108) (xm_rt 108) ∈ x_GW := x_inw 773 rfl rfl
set_option maxRecDepth 100000 in
theorem x_cw109 : Cond.code (xm_y 109) (xm_b 109) (xm_max 109) (xm_rt 109) ∈ x_GW := x_inw 777 rfl rfl
set_option maxRecDepth 100000 in
theorem x_cw110 : Cond.code (xm_y 110) (xm_b 110) (xm_max 110) (xm_rt 110) ∈ x_GW := x_inw 781 rfl rfl
set_option maxRecDepth 100000 in
theorem x_cw111 : Cond.code (xm_y 111) (xm_b 111) (xm_max 111) (xm_rt 111) ∈ x_GW := x_inw 785 rfl rfl
set_option maxRecDepth 100000 in
theorem x_cw112 : Cond.code (xm_y 112) (xm_b 112) (xm_max 112) (xm_rt 112) ∈ x_GW := x_inw 789 rfl rfl
set_option maxRecDepth 100000 in
theorem x_cw113 : Cond.code (xm_y 113) (xm_b 113) (xm_max 113) (xm_rt 113) ∈ x_GW := x_inw 793 rfl rfl
set_option maxRecDepth 100000 in
theorem x_cw114 : Cond.code (xm_y 114) (xm_b 114) (xm_max 114) (xm_rt 114) ∈ x_GW := x_inw 797 rfl rfl
set_option maxRecDepth 100000 in
theorem x_cw115 : Cond.code (xm_y 115) (xm_b 115) (xm_max 115) (xm_rt 115) ∈ x_GW := x_inw 801 rfl rfl
set_option maxRecDepth 100000 in
theorem x_cw116 : Cond.code (xm_y 116) (xm_b 116) (xm_max 116) (xm_rt 116) ∈ x_GW := x_inw 806 rfl rfl
set_option maxRecDepth 100000 in
theorem x_cw117 : Cond.code (xm_y 117) (xm_b 117) (xm_max 117) (xm_rt 117) ∈ x_GW := x_inw 810 rfl rfl
set_option maxRecDepth 100000 in
theorem x_cw118 : Cond.code (xm_y 118) (xm_b 118) (xm_max 118) (xm_rt 118) ∈ x_GW := x_inw 814 rfl rfl
theorem x_code_ok {i : Nat} (h : xm_ok i = true) : Cond.code (xm_y i) (xm_b i) (xm_max i) (xm_rt i) ∈ x_GW := match i, h with
  | 0, _ => x_cw0
  | 1, _ => x_cw1
  | 2, _ => x_cw2
  | 3, _ => x_cw3
  | 4, _ => x_cw4
  | 5, _ => x_cw5
  | 6, _ => x_cw6
  | 7, _ => x_cw7
  | 8, _ => x_cw8
  | 9, _ => x_cw9
  | 10, _ => x_cw10
  | 11, _ => x_cw11
  | 12, _ => x_cw12
  | 13, _ => x_cw13
  | 14, _ => x_cw14
  | 15, _ => x_cw15
  | 16, _ => x_cw16
  | 17, _ => x_cw17
  | 18, _ => x_cw18
  | 19, _ => x_cw19
  | 20, _ => x_cw20
  | 21, _ => x_cw21
  | 22, _ => x_cw22
  | 23, _ => x_cw23
  | 24, _ => x_cw24
  | 25, _ => x_cw25
  | 26, _ => x_cw26
  | 27, _ => x_cw27
  | 28, _ => x_cw28
  | 29, _ => x_cw29
  | 30, _ => x_cw30
  | 31, _ => x_cw31
  | 32, _ => x_cw32
  | 33, _ => x_cw33
  | 34, _ => x_cw34
  | 35, _ => x_cw35
  | 36, _ => x_cw36
  | 37, _ => x_cw37
  | 38, _ => x_cw38
  | 39, _ => x_cw39
  | 40, _ => x_cw40
  | 41, _ => x_cw41
  | 42, _ => x_cw42
  | 43, _ => x_cw43
  | 44, _ => x_cw44
  | 45, _ => x_cw45
  | 46, _ => x_cw46
  | 47, _ => x_cw47
  | 48, _ => x_cw48
  | 49, _ => x_cw49
  | 50, _ => x_cw50
  | 51, _ => x_cw51
  | 52, _ => x_cw52
  | 53, _ => x_cw53
  | 54, _ => x_cw54
  | 55, _ => x_cw55
  | 56, _ => x_cw56
  | 57, _ => x_cw57
  | 58, _ => x_cw58
  | 59, _ => x_cw59
  | 60, _ => x_cw60
  | 61, _ => x_cw61
  | 62, _ => x_cw62
  | 63, _ => x_cw63
  | 64, _ => x_cw64
  | 65, _ => x_cw65
  | 66, _ => x_cw66
  | 67, _ => x_cw67
  | 68, _ => x_cw68
  | 69, _ => x_cw69
  | 70, _ => x_cw70
  | 71, _ => x_cw71
  | 72, _ => x_cw72
  | 73, _ => x_cw73
  | 74, _ => x_cw74
  | 75, _ => x_cw75
  | 76, _ => x_cw76
  | 77, _ => x_cw77
  | 78, _ => x_cw78
  | 79, _ => x_cw79
  | 80, _ => x_cw80
  | 81, _ => x_cw81
  | 82, _ => x_cw82
  | 83, _ => x_cw83
  | 84, _ => x_cw84
  | 85, _ => x_cw85
  | 86, _ => x_cw86
  | 87, _ => x_cw87
  | 88, _ => x_cw88
  | 89, _ => x_cw89
  | 90, _ => x_cw90
  | 91, _ => x_cw91
  | 92, _ => x_cw92
  | 93, _ => x_cw93
  | 94, _ => x_cw94
  | 95, _ => x_cw95
  | 96, _ => x_cw96
  | 97, _ => x_cw97
  | 98, _ => x_cw98
  | 99, _ => x_cw99
  | 100, _ => x_cw100
  | 101, _ => x_cw101
  | 102, _ => x_cw102
  | 103, _ => x_cw103
  | 104, _ => x_cw104
  | 105, _ => x_cw105
  | 106, _ => x_cw106
  | 107, _ => x_cw107
  | 108, _ => x_cw108
  | 109, _ => x_cw109
  | 110, _ => x_cw110
  | 111, _ => x_cw111
  | 112, _ => x_cw112
  | 113, _ => x_cw113
  | 114, _ => x_cw114
  | 115, _ => x_cw115
  | 116, _ => x_cw116
  | 117, _ => x_cw117
  | 118, _ => x_cw118
  | n + 119, h => absurd (of_decide_eq_true h : n + 119 < 119) (by omega)
theorem x_tM0_ok {o idx mj : Nat} (h : x_tM o idx = some (0, mj)) : xm_ok mj = true ∧ 1 ≤ xm_na mj ∧ Cond.methodLink (x_cn o) idx (xm_y mj) ∈ x_GW ∧ Cond.instanceMethod (xm_y mj) ∈ x_GW ∧ Cond.selects (x_cn (xm_own mj)) (xm_y mj) (xm_y mj) ∈ x_GW ∧ Cond.initialized (x_cn (xm_own mj)) ∈ x_GW ∧ xm_own mj < 20 ∧ (parseMethodDescriptor (xm_y mj).desc).map (fun d => d.parameters.length) = some (xm_na mj - 1) := (x_pm_all _ (x_lookup h)).1 rfl
theorem x_tM1_ok {o idx mj : Nat} (h : x_tM o idx = some (1, mj)) : xm_ok mj = true ∧ 1 ≤ xm_na mj ∧ Cond.methodLink (x_cn o) idx (xm_y mj) ∈ x_GW ∧ Cond.instanceMethod (xm_y mj) ∈ x_GW ∧ Cond.initialized (xm_y mj).cls ∈ x_GW ∧ (xm_y mj).name = "<init>" ∧ xm_rt mj = none ∧ (parseMethodDescriptor (xm_y mj).desc).map (fun d => d.parameters.length) = some (xm_na mj - 1) := (x_pm_all _ (x_lookup h)).2.1 rfl
theorem x_tM2_ok {o idx mj : Nat} (h : x_tM o idx = some (2, mj)) : xm_ok mj = true ∧ Cond.methodLink (x_cn o) idx (xm_y mj) ∈ x_GW ∧ Cond.static (xm_y mj) ∈ x_GW ∧ Cond.initialized (xm_y mj).cls ∈ x_GW ∧ (parseMethodDescriptor (xm_y mj).desc).map (fun d => d.parameters.length) = some (xm_na mj) := (x_pm_all _ (x_lookup h)).2.2.1 rfl
set_option maxRecDepth 100000 in
theorem x_oi1 : Cond.instanceMethod Lib.objectInit ∈ x_GW := x_inw 69 rfl rfl
set_option maxRecDepth 100000 in
theorem x_oi2 : Cond.code Lib.objectInit ⟨#[0xb1]⟩ 1 none ∈ x_GW := x_inw 70 rfl rfl
theorem x_tM3_ok {o idx u : Nat} (h : x_tM o idx = some (3, u)) : Cond.methodLink (x_cn o) idx Lib.objectInit ∈ x_GW ∧ Cond.instanceMethod Lib.objectInit ∈ x_GW ∧ Cond.code Lib.objectInit ⟨#[0xb1]⟩ 1 none ∈ x_GW := ⟨(x_pm_all _ (x_lookup h)).2.2.2.1 rfl, x_oi1, x_oi2⟩
theorem x_tM4_ok {o idx mj : Nat} (h : x_tM o idx = some (4, mj)) : xm_ok mj = true ∧ 1 ≤ xm_na mj ∧ (o, idx, mj) ∈ x_nestL ∧ Cond.instanceMethod (xm_y mj) ∈ x_GW ∧ Cond.initialized (xm_y mj).cls ∈ x_GW ∧ (xm_y mj).name = "<init>" ∧ xm_rt mj = none ∧ (parseMethodDescriptor (xm_y mj).desc).map (fun d => d.parameters.length) = some (xm_na mj - 1) := (x_pm_all _ (x_lookup h)).2.2.2.2 rfl

