/-! ===== the reference's cells, one by one ===== -/
theorem GTs.fo311 {G : GD} (h : GTs G) : okO G 311 11 := h.o 311 11 rfl rfl
theorem GTs.fp311_1 {G : GD} (h : GTs G) : gP G 311 1 = some 312 := h.p 311 1 312 rfl rfl
theorem GTs.fp311_6 {G : GD} (h : GTs G) : gP G 311 6 = some 313 := h.p 311 6 313 rfl rfl
theorem GTs.fp311_7 {G : GD} (h : GTs G) : gP G 311 7 = some 314 := h.p 311 7 314 rfl rfl
theorem GTs.fp311_8 {G : GD} (h : GTs G) : gP G 311 8 = some 315 := h.p 311 8 315 rfl rfl
theorem GTs.fp311_9 {G : GD} (h : GTs G) : gP G 311 9 = some 316 := h.p 311 9 316 rfl rfl
theorem GTs.fp311_10 {G : GD} (h : GTs G) : gP G 311 10 = some 317 := h.p 311 10 317 rfl rfl
theorem GTs.fp311_11 {G : GD} (h : GTs G) : gP G 311 11 = some 318 := h.p 311 11 318 rfl rfl
theorem GTs.fp311_12 {G : GD} (h : GTs G) : gP G 311 12 = some 319 := h.p 311 12 319 rfl rfl
theorem GTs.fp311_15 {G : GD} (h : GTs G) : gP G 311 15 = some 320 := h.p 311 15 320 rfl rfl
theorem GTs.fp311_16 {G : GD} (h : GTs G) : gP G 311 16 = some 321 := h.p 311 16 321 rfl rfl
theorem GTs.fp311_17 {G : GD} (h : GTs G) : gP G 311 17 = some 322 := h.p 311 17 322 rfl rfl
theorem GTs.fp311_18 {G : GD} (h : GTs G) : gP G 311 18 = some 323 := h.p 311 18 323 rfl rfl
theorem GTs.fp311_19 {G : GD} (h : GTs G) : gP G 311 19 = some 324 := h.p 311 19 324 rfl rfl
theorem GTs.fp311_22 {G : GD} (h : GTs G) : gP G 311 22 = some 325 := h.p 311 22 325 rfl rfl
theorem GTs.fp311_23 {G : GD} (h : GTs G) : gP G 311 23 = some 326 := h.p 311 23 326 rfl rfl
theorem GTs.fp311_24 {G : GD} (h : GTs G) : gP G 311 24 = some 327 := h.p 311 24 327 rfl rfl
theorem GTs.fp311_27 {G : GD} (h : GTs G) : gP G 311 27 = some 328 := h.p 311 27 328 rfl rfl
theorem GTs.fp311_28 {G : GD} (h : GTs G) : gP G 311 28 = some 329 := h.p 311 28 329 rfl rfl
theorem GTs.fp311_31 {G : GD} (h : GTs G) : gP G 311 31 = some 330 := h.p 311 31 330 rfl rfl
theorem GTs.fp311_34 {G : GD} (h : GTs G) : gP G 311 34 = some 331 := h.p 311 34 331 rfl rfl
theorem GTs.fp311_37 {G : GD} (h : GTs G) : gP G 311 37 = some 332 := h.p 311 37 332 rfl rfl
theorem GTs.fp311_38 {G : GD} (h : GTs G) : gP G 311 38 = some 333 := h.p 311 38 333 rfl rfl
theorem GTs.fp311_39 {G : GD} (h : GTs G) : gP G 311 39 = some 334 := h.p 311 39 334 rfl rfl
theorem GTs.fp311_41 {G : GD} (h : GTs G) : gP G 311 41 = some 335 := h.p 311 41 335 rfl rfl
theorem GTs.fp311_42 {G : GD} (h : GTs G) : gP G 311 42 = some 336 := h.p 311 42 336 rfl rfl
theorem GTs.fp311_43 {G : GD} (h : GTs G) : gP G 311 43 = some 337 := h.p 311 43 337 rfl rfl
theorem GTs.fo312 {G : GD} (h : GTs G) : okO G 312 100 := h.o 312 100 rfl rfl
theorem GTs.fa312 {G : GD} (h : GTs G) : okA G 312 := (h.fo312).A
theorem GTs.fl312 {G : GD} (h : GTs G) : gL G 312 = 240 := h.l 312 240 rfl rfl
theorem GTs.fo313 {G : GD} (h : GTs G) : okO G 313 100 := h.o 313 100 rfl rfl
theorem GTs.fa313 {G : GD} (h : GTs G) : okA G 313 := (h.fo313).A
theorem GTs.fl313 {G : GD} (h : GTs G) : gL G 313 = 2600 := h.l 313 2600 rfl rfl
theorem GTs.fo314 {G : GD} (h : GTs G) : okO G 314 100 := h.o 314 100 rfl rfl
theorem GTs.fa314 {G : GD} (h : GTs G) : okA G 314 := (h.fo314).A
theorem GTs.fl314 {G : GD} (h : GTs G) : gL G 314 = 2600 := h.l 314 2600 rfl rfl
theorem GTs.fo315 {G : GD} (h : GTs G) : okO G 315 100 := h.o 315 100 rfl rfl
theorem GTs.fa315 {G : GD} (h : GTs G) : okA G 315 := (h.fo315).A
theorem GTs.fl315 {G : GD} (h : GTs G) : gL G 315 = 5 := h.l 315 5 rfl rfl
theorem GTs.fo316 {G : GD} (h : GTs G) : okO G 316 100 := h.o 316 100 rfl rfl
theorem GTs.fa316 {G : GD} (h : GTs G) : okA G 316 := (h.fo316).A
theorem GTs.fl316 {G : GD} (h : GTs G) : gL G 316 = 5 := h.l 316 5 rfl rfl
theorem GTs.fo317 {G : GD} (h : GTs G) : okO G 317 100 := h.o 317 100 rfl rfl
theorem GTs.fa317 {G : GD} (h : GTs G) : okA G 317 := (h.fo317).A
theorem GTs.fl317 {G : GD} (h : GTs G) : gL G 317 = 700 := h.l 317 700 rfl rfl
theorem GTs.fo318 {G : GD} (h : GTs G) : okO G 318 100 := h.o 318 100 rfl rfl
theorem GTs.fa318 {G : GD} (h : GTs G) : okA G 318 := (h.fo318).A
theorem GTs.fl318 {G : GD} (h : GTs G) : gL G 318 = 700 := h.l 318 700 rfl rfl
theorem GTs.fo319 {G : GD} (h : GTs G) : okO G 319 100 := h.o 319 100 rfl rfl
theorem GTs.fa319 {G : GD} (h : GTs G) : okA G 319 := (h.fo319).A
theorem GTs.fl319 {G : GD} (h : GTs G) : gL G 319 = 700 := h.l 319 700 rfl rfl
theorem GTs.fo320 {G : GD} (h : GTs G) : okO G 320 100 := h.o 320 100 rfl rfl
theorem GTs.fa320 {G : GD} (h : GTs G) : okA G 320 := (h.fo320).A
theorem GTs.fl320 {G : GD} (h : GTs G) : gL G 320 = 6 := h.l 320 6 rfl rfl
theorem GTs.fo321 {G : GD} (h : GTs G) : okO G 321 100 := h.o 321 100 rfl rfl
theorem GTs.fa321 {G : GD} (h : GTs G) : okA G 321 := (h.fo321).A
theorem GTs.fl321 {G : GD} (h : GTs G) : gL G 321 = 80 := h.l 321 80 rfl rfl
theorem GTs.fo322 {G : GD} (h : GTs G) : okO G 322 100 := h.o 322 100 rfl rfl
theorem GTs.fa322 {G : GD} (h : GTs G) : okA G 322 := (h.fo322).A
theorem GTs.fl322 {G : GD} (h : GTs G) : gL G 322 = 2 := h.l 322 2 rfl rfl
theorem GTs.fo323 {G : GD} (h : GTs G) : okO G 323 100 := h.o 323 100 rfl rfl
theorem GTs.fa323 {G : GD} (h : GTs G) : okA G 323 := (h.fo323).A
theorem GTs.fl323 {G : GD} (h : GTs G) : gL G 323 = 10 := h.l 323 10 rfl rfl
theorem GTs.fo324 {G : GD} (h : GTs G) : okO G 324 100 := h.o 324 100 rfl rfl
theorem GTs.fa324 {G : GD} (h : GTs G) : okA G 324 := (h.fo324).A
theorem GTs.fl324 {G : GD} (h : GTs G) : gL G 324 = 40 := h.l 324 40 rfl rfl
theorem GTs.fo325 {G : GD} (h : GTs G) : okO G 325 100 := h.o 325 100 rfl rfl
theorem GTs.fa325 {G : GD} (h : GTs G) : okA G 325 := (h.fo325).A
theorem GTs.fl325 {G : GD} (h : GTs G) : gL G 325 = 2 := h.l 325 2 rfl rfl
theorem GTs.fo326 {G : GD} (h : GTs G) : okO G 326 100 := h.o 326 100 rfl rfl
theorem GTs.fa326 {G : GD} (h : GTs G) : okA G 326 := (h.fo326).A
theorem GTs.fl326 {G : GD} (h : GTs G) : gL G 326 = 10 := h.l 326 10 rfl rfl
theorem GTs.fo327 {G : GD} (h : GTs G) : okO G 327 100 := h.o 327 100 rfl rfl
theorem GTs.fa327 {G : GD} (h : GTs G) : okA G 327 := (h.fo327).A
theorem GTs.fl327 {G : GD} (h : GTs G) : gL G 327 = 40 := h.l 327 40 rfl rfl
theorem GTs.fo328 {G : GD} (h : GTs G) : okO G 328 100 := h.o 328 100 rfl rfl
theorem GTs.fa328 {G : GD} (h : GTs G) : okA G 328 := (h.fo328).A
theorem GTs.fl328 {G : GD} (h : GTs G) : gL G 328 = 232 := h.l 328 232 rfl rfl
theorem GTs.fo329 {G : GD} (h : GTs G) : okO G 329 100 := h.o 329 100 rfl rfl
theorem GTs.fa329 {G : GD} (h : GTs G) : okA G 329 := (h.fo329).A
theorem GTs.fl329 {G : GD} (h : GTs G) : gL G 329 = 5 := h.l 329 5 rfl rfl
theorem GTs.fo330 {G : GD} (h : GTs G) : okO G 330 100 := h.o 330 100 rfl rfl
theorem GTs.fa330 {G : GD} (h : GTs G) : okA G 330 := (h.fo330).A
theorem GTs.fl330 {G : GD} (h : GTs G) : gL G 330 = 9280 := h.l 330 9280 rfl rfl
theorem GTs.fo331 {G : GD} (h : GTs G) : okO G 331 100 := h.o 331 100 rfl rfl
theorem GTs.fa331 {G : GD} (h : GTs G) : okA G 331 := (h.fo331).A
theorem GTs.fl331 {G : GD} (h : GTs G) : gL G 331 = 561 := h.l 331 561 rfl rfl
theorem GTs.fo332 {G : GD} (h : GTs G) : okO G 332 100 := h.o 332 100 rfl rfl
theorem GTs.fa332 {G : GD} (h : GTs G) : okA G 332 := (h.fo332).A
theorem GTs.fl332 {G : GD} (h : GTs G) : gL G 332 = 10 := h.l 332 10 rfl rfl
theorem GTs.fo333 {G : GD} (h : GTs G) : okO G 333 100 := h.o 333 100 rfl rfl
theorem GTs.fa333 {G : GD} (h : GTs G) : okA G 333 := (h.fo333).A
theorem GTs.fl333 {G : GD} (h : GTs G) : gL G 333 = 10 := h.l 333 10 rfl rfl
theorem GTs.fo334 {G : GD} (h : GTs G) : okO G 334 102 := h.o 334 102 rfl rfl
theorem GTs.fl334 {G : GD} (h : GTs G) : gL G 334 = 10 := h.l 334 10 rfl rfl
theorem GTs.fo335 {G : GD} (h : GTs G) : okO G 335 100 := h.o 335 100 rfl rfl
theorem GTs.fa335 {G : GD} (h : GTs G) : okA G 335 := (h.fo335).A
theorem GTs.fl335 {G : GD} (h : GTs G) : gL G 335 = 31 := h.l 335 31 rfl rfl
theorem GTs.fo336 {G : GD} (h : GTs G) : okO G 336 100 := h.o 336 100 rfl rfl
theorem GTs.fa336 {G : GD} (h : GTs G) : okA G 336 := (h.fo336).A
theorem GTs.fl336 {G : GD} (h : GTs G) : gL G 336 = 5 := h.l 336 5 rfl rfl
theorem GTs.fo337 {G : GD} (h : GTs G) : okO G 337 100 := h.o 337 100 rfl rfl
theorem GTs.fa337 {G : GD} (h : GTs G) : okA G 337 := (h.fo337).A
theorem GTs.fl337 {G : GD} (h : GTs G) : gL G 337 = 232 := h.l 337 232 rfl rfl
theorem GTs.fo338 {G : GD} (h : GTs G) : okO G 338 101 := h.o 338 101 rfl rfl
theorem GTs.fl338 {G : GD} (h : GTs G) : gL G 338 = 1 := h.l 338 1 rfl rfl
