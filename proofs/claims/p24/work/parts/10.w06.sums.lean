section
/-! what is known of the methods, checked (written by emit.py) -/
noncomputable def S360 : Sum1 := (58, [cR 64, cI 5 5], [], [], [(64, 5, 6), (66, 0, 0)], [([cR 64, cI 5 5], [((64, 5), 6, 6), ((64, 6), 1, 1), ((66, 0), 0, 0)], [], none)])
noncomputable def S361 : Sum1 := (70, [cI 0 63], [], [], [], [([cI 0 63], [], [], some (.inl (cI 0 8))), ([cI 0 63], [], [], some (.inl (cI 0 0)))])
noncomputable def S362 : Sum1 := (67, [cR 64, cR 55, cI 0 0, cI 4 4, cI 63 63], [], [], [], [([cR 64, cR 55, cI 0 0, cI 4 4, cI 63 63], [], [], some (.inl (cI 0 0))), ([cR 64, cR 55, cI 0 0, cI 4 4, cI 63 63], [], [], some (.inl (cI 0 8)))])
noncomputable def S363 : Sum1 := (67, [cR 64, cR 55, cI 1 1, cI 4 4, cI 0 63], [], [], [], [([cR 64, cR 55, cI 1 1, cI 4 4, cI 0 63], [], [], some (.inl (cI 0 0))), ([cR 64, cR 55, cI 1 1, cI 4 4, cI 0 63], [], [], some (.inl (cI 0 8)))])
noncomputable def S364 : Sum1 := (67, [cR 64, cR 55, cI 2 2, cI 4 4, cI 0 63], [], [], [], [([cR 64, cR 55, cI 2 2, cI 4 4, cI 0 63], [], [], some (.inl (cI 0 0))), ([cR 64, cR 55, cI 2 2, cI 4 4, cI 0 63], [], [], some (.inl (cI 0 8)))])
noncomputable def S365 : Sum1 := (67, [cR 64, cR 55, cI 3 3, cI 4 4, cI 0 63], [], [], [], [([cR 64, cR 55, cI 3 3, cI 4 4, cI 0 63], [], [], some (.inl (cI 0 0))), ([cR 64, cR 55, cI 3 3, cI 4 4, cI 0 63], [], [], some (.inl (cI 0 8)))])
noncomputable def S366 : Sum1 := (62, [cR 64, cR 55, cI 5 5], [((54, 3), 4, 4)], [519], [(64, 5, 6), (65, 1, 8), (66, 0, 8), (68, 0, 8)], [([cR 64, cR 55, cI 5 5], [((64, 5), 6, 6)], [], none)])
noncomputable def S367 : Sum1 := (58, [cR 64, cI 6 6], [], [], [(64, 5, 6), (66, 0, 0)], [([cR 64, cI 6 6], [((64, 5), 7, 7), ((64, 6), 1, 1), ((66, 0), 0, 0)], [], none)])
noncomputable def S368 : Sum1 := (70, [cI 0 127], [], [], [], [([cI 0 127], [], [], some (.inl (cI 0 8))), ([cI 0 127], [], [], some (.inl (cI 0 0)))])
noncomputable def S369 : Sum1 := (67, [cR 64, cR 55, cI 0 0, cI 5 5, cI 127 127], [], [], [], [([cR 64, cR 55, cI 0 0, cI 5 5, cI 127 127], [], [], some (.inl (cI 0 0))), ([cR 64, cR 55, cI 0 0, cI 5 5, cI 127 127], [], [], some (.inl (cI 0 8)))])
noncomputable def S370 : Sum1 := (67, [cR 64, cR 55, cI 1 1, cI 5 5, cI 0 127], [], [], [], [([cR 64, cR 55, cI 1 1, cI 5 5, cI 0 127], [], [], some (.inl (cI 0 0))), ([cR 64, cR 55, cI 1 1, cI 5 5, cI 0 127], [], [], some (.inl (cI 0 8)))])
noncomputable def S371 : Sum1 := (67, [cR 64, cR 55, cI 2 2, cI 5 5, cI 0 127], [], [], [], [([cR 64, cR 55, cI 2 2, cI 5 5, cI 0 127], [], [], some (.inl (cI 0 0))), ([cR 64, cR 55, cI 2 2, cI 5 5, cI 0 127], [], [], some (.inl (cI 0 8)))])
noncomputable def S372 : Sum1 := (67, [cR 64, cR 55, cI 3 3, cI 5 5, cI 0 127], [], [], [], [([cR 64, cR 55, cI 3 3, cI 5 5, cI 0 127], [], [], some (.inl (cI 0 0))), ([cR 64, cR 55, cI 3 3, cI 5 5, cI 0 127], [], [], some (.inl (cI 0 8)))])
noncomputable def S373 : Sum1 := (67, [cR 64, cR 55, cI 4 4, cI 5 5, cI 0 127], [], [], [], [([cR 64, cR 55, cI 4 4, cI 5 5, cI 0 127], [], [], some (.inl (cI 0 0))), ([cR 64, cR 55, cI 4 4, cI 5 5, cI 0 127], [], [], some (.inl (cI 0 8)))])
noncomputable def S374 : Sum1 := (62, [cR 64, cR 55, cI 6 6], [((54, 3), 5, 5)], [519], [(64, 5, 6), (65, 1, 8), (66, 0, 8), (68, 0, 8)], [([cR 64, cR 55, cI 6 6], [((64, 5), 7, 7)], [], none)])
noncomputable def S375 : Sum1 := (58, [cR 64, cI 7 7], [], [], [(64, 5, 6), (66, 0, 0)], [([cR 64, cI 7 7], [((64, 5), 8, 8), ((64, 6), 1, 1), ((66, 0), 0, 0)], [], none)])
noncomputable def S376 : Sum1 := (70, [cI 0 255], [], [], [], [([cI 0 255], [], [], some (.inl (cI 0 8))), ([cI 0 255], [], [], some (.inl (cI 0 0)))])
noncomputable def S377 : Sum1 := (67, [cR 64, cR 55, cI 0 0, cI 6 6, cI 255 255], [], [], [], [([cR 64, cR 55, cI 0 0, cI 6 6, cI 255 255], [], [], some (.inl (cI 0 0))), ([cR 64, cR 55, cI 0 0, cI 6 6, cI 255 255], [], [], some (.inl (cI 0 8)))])
noncomputable def S378 : Sum1 := (67, [cR 64, cR 55, cI 1 1, cI 6 6, cI 0 255], [], [], [], [([cR 64, cR 55, cI 1 1, cI 6 6, cI 0 255], [], [], some (.inl (cI 0 0))), ([cR 64, cR 55, cI 1 1, cI 6 6, cI 0 255], [], [], some (.inl (cI 0 8)))])
noncomputable def S379 : Sum1 := (67, [cR 64, cR 55, cI 2 2, cI 6 6, cI 0 255], [], [], [], [([cR 64, cR 55, cI 2 2, cI 6 6, cI 0 255], [], [], some (.inl (cI 0 0))), ([cR 64, cR 55, cI 2 2, cI 6 6, cI 0 255], [], [], some (.inl (cI 0 8)))])
noncomputable def S380 : Sum1 := (67, [cR 64, cR 55, cI 3 3, cI 6 6, cI 0 255], [], [], [], [([cR 64, cR 55, cI 3 3, cI 6 6, cI 0 255], [], [], some (.inl (cI 0 0))), ([cR 64, cR 55, cI 3 3, cI 6 6, cI 0 255], [], [], some (.inl (cI 0 8)))])
noncomputable def S381 : Sum1 := (67, [cR 64, cR 55, cI 4 4, cI 6 6, cI 0 255], [], [], [], [([cR 64, cR 55, cI 4 4, cI 6 6, cI 0 255], [], [], some (.inl (cI 0 0))), ([cR 64, cR 55, cI 4 4, cI 6 6, cI 0 255], [], [], some (.inl (cI 0 8)))])
noncomputable def S382 : Sum1 := (67, [cR 64, cR 55, cI 5 5, cI 6 6, cI 0 255], [], [], [], [([cR 64, cR 55, cI 5 5, cI 6 6, cI 0 255], [], [], some (.inl (cI 0 0))), ([cR 64, cR 55, cI 5 5, cI 6 6, cI 0 255], [], [], some (.inl (cI 0 8)))])
noncomputable def S383 : Sum1 := (62, [cR 64, cR 55, cI 7 7], [((54, 3), 6, 6)], [519], [(64, 5, 6), (65, 1, 8), (66, 0, 8), (68, 0, 8)], [([cR 64, cR 55, cI 7 7], [((64, 5), 8, 8)], [], none)])
noncomputable def S384 : Sum1 := (58, [cR 64, cI 8 8], [], [], [(64, 5, 6), (66, 0, 0)], [([cR 64, cI 8 8], [((64, 5), 9, 9), ((64, 6), 1, 1), ((66, 0), 0, 0)], [], none)])
noncomputable def S385 : Sum1 := (67, [cR 64, cR 55, cI 0 0, cI 7 7, cI 511 511], [], [], [], [([cR 64, cR 55, cI 0 0, cI 7 7, cI 511 511], [], [], some (.inl (cI 0 0))), ([cR 64, cR 55, cI 0 0, cI 7 7, cI 511 511], [], [], some (.inl (cI 0 8)))])
noncomputable def S386 : Sum1 := (67, [cR 64, cR 55, cI 1 1, cI 7 7, cI 0 511], [], [], [], [([cR 64, cR 55, cI 1 1, cI 7 7, cI 0 511], [], [], some (.inl (cI 0 0))), ([cR 64, cR 55, cI 1 1, cI 7 7, cI 0 511], [], [], some (.inl (cI 0 8)))])
noncomputable def S387 : Sum1 := (67, [cR 64, cR 55, cI 2 2, cI 7 7, cI 0 511], [], [], [], [([cR 64, cR 55, cI 2 2, cI 7 7, cI 0 511], [], [], some (.inl (cI 0 0))), ([cR 64, cR 55, cI 2 2, cI 7 7, cI 0 511], [], [], some (.inl (cI 0 8)))])
noncomputable def S388 : Sum1 := (67, [cR 64, cR 55, cI 3 3, cI 7 7, cI 0 511], [], [], [], [([cR 64, cR 55, cI 3 3, cI 7 7, cI 0 511], [], [], some (.inl (cI 0 0))), ([cR 64, cR 55, cI 3 3, cI 7 7, cI 0 511], [], [], some (.inl (cI 0 8)))])
noncomputable def S389 : Sum1 := (67, [cR 64, cR 55, cI 4 4, cI 7 7, cI 0 511], [], [], [], [([cR 64, cR 55, cI 4 4, cI 7 7, cI 0 511], [], [], some (.inl (cI 0 0))), ([cR 64, cR 55, cI 4 4, cI 7 7, cI 0 511], [], [], some (.inl (cI 0 8)))])
noncomputable def S390 : Sum1 := (67, [cR 64, cR 55, cI 5 5, cI 7 7, cI 0 511], [], [], [], [([cR 64, cR 55, cI 5 5, cI 7 7, cI 0 511], [], [], some (.inl (cI 0 0))), ([cR 64, cR 55, cI 5 5, cI 7 7, cI 0 511], [], [], some (.inl (cI 0 8)))])
noncomputable def S391 : Sum1 := (67, [cR 64, cR 55, cI 6 6, cI 7 7, cI 0 511], [], [], [], [([cR 64, cR 55, cI 6 6, cI 7 7, cI 0 511], [], [], some (.inl (cI 0 0))), ([cR 64, cR 55, cI 6 6, cI 7 7, cI 0 511], [], [], some (.inl (cI 0 8)))])
noncomputable def S392 : Sum1 := (62, [cR 64, cR 55, cI 8 8], [((54, 3), 7, 7)], [519], [(64, 5, 6), (65, 1, 8), (66, 0, 8), (68, 0, 8)], [([cR 64, cR 55, cI 8 8], [((64, 5), 9, 9)], [], none)])
noncomputable def S393 : Sum1 := (67, [cR 64, cR 57, cI 0 0, cI 3 3, cI 31 31], [], [], [], [([cR 64, cR 57, cI 0 0, cI 3 3, cI 31 31], [], [], some (.inl (cI 0 0))), ([cR 64, cR 57, cI 0 0, cI 3 3, cI 31 31], [], [], some (.inl (cI 0 8)))])
noncomputable def S394 : Sum1 := (67, [cR 64, cR 57, cI 1 1, cI 3 3, cI 0 31], [], [], [], [([cR 64, cR 57, cI 1 1, cI 3 3, cI 0 31], [], [], some (.inl (cI 0 0))), ([cR 64, cR 57, cI 1 1, cI 3 3, cI 0 31], [], [], some (.inl (cI 0 8)))])
noncomputable def S395 : Sum1 := (67, [cR 64, cR 57, cI 2 2, cI 3 3, cI 0 31], [], [], [], [([cR 64, cR 57, cI 2 2, cI 3 3, cI 0 31], [], [], some (.inl (cI 0 0))), ([cR 64, cR 57, cI 2 2, cI 3 3, cI 0 31], [], [], some (.inl (cI 0 8)))])
noncomputable def S396 : Sum1 := (62, [cR 64, cR 57, cI 4 4], [((56, 3), 3, 3)], [581], [(64, 5, 6), (65, 1, 8), (66, 0, 8), (68, 0, 8)], [([cR 64, cR 57, cI 4 4], [((64, 5), 5, 5)], [], none)])
noncomputable def S397 : Sum1 := (67, [cR 64, cR 57, cI 0 0, cI 4 4, cI 63 63], [], [], [], [([cR 64, cR 57, cI 0 0, cI 4 4, cI 63 63], [], [], some (.inl (cI 0 0))), ([cR 64, cR 57, cI 0 0, cI 4 4, cI 63 63], [], [], some (.inl (cI 0 8)))])
noncomputable def S398 : Sum1 := (67, [cR 64, cR 57, cI 1 1, cI 4 4, cI 0 63], [], [], [], [([cR 64, cR 57, cI 1 1, cI 4 4, cI 0 63], [], [], some (.inl (cI 0 0))), ([cR 64, cR 57, cI 1 1, cI 4 4, cI 0 63], [], [], some (.inl (cI 0 8)))])
noncomputable def S399 : Sum1 := (67, [cR 64, cR 57, cI 2 2, cI 4 4, cI 0 63], [], [], [], [([cR 64, cR 57, cI 2 2, cI 4 4, cI 0 63], [], [], some (.inl (cI 0 0))), ([cR 64, cR 57, cI 2 2, cI 4 4, cI 0 63], [], [], some (.inl (cI 0 8)))])
noncomputable def S400 : Sum1 := (67, [cR 64, cR 57, cI 3 3, cI 4 4, cI 0 63], [], [], [], [([cR 64, cR 57, cI 3 3, cI 4 4, cI 0 63], [], [], some (.inl (cI 0 0))), ([cR 64, cR 57, cI 3 3, cI 4 4, cI 0 63], [], [], some (.inl (cI 0 8)))])
noncomputable def S401 : Sum1 := (62, [cR 64, cR 57, cI 5 5], [((56, 3), 4, 4)], [581], [(64, 5, 6), (65, 1, 8), (66, 0, 8), (68, 0, 8)], [([cR 64, cR 57, cI 5 5], [((64, 5), 6, 6)], [], none)])
noncomputable def S402 : Sum1 := (67, [cR 64, cR 57, cI 0 0, cI 5 5, cI 127 127], [], [], [], [([cR 64, cR 57, cI 0 0, cI 5 5, cI 127 127], [], [], some (.inl (cI 0 0))), ([cR 64, cR 57, cI 0 0, cI 5 5, cI 127 127], [], [], some (.inl (cI 0 8)))])
noncomputable def S403 : Sum1 := (67, [cR 64, cR 57, cI 1 1, cI 5 5, cI 0 127], [], [], [], [([cR 64, cR 57, cI 1 1, cI 5 5, cI 0 127], [], [], some (.inl (cI 0 0))), ([cR 64, cR 57, cI 1 1, cI 5 5, cI 0 127], [], [], some (.inl (cI 0 8)))])
noncomputable def S404 : Sum1 := (67, [cR 64, cR 57, cI 2 2, cI 5 5, cI 0 127], [], [], [], [([cR 64, cR 57, cI 2 2, cI 5 5, cI 0 127], [], [], some (.inl (cI 0 0))), ([cR 64, cR 57, cI 2 2, cI 5 5, cI 0 127], [], [], some (.inl (cI 0 8)))])
noncomputable def S405 : Sum1 := (67, [cR 64, cR 57, cI 3 3, cI 5 5, cI 0 127], [], [], [], [([cR 64, cR 57, cI 3 3, cI 5 5, cI 0 127], [], [], some (.inl (cI 0 0))), ([cR 64, cR 57, cI 3 3, cI 5 5, cI 0 127], [], [], some (.inl (cI 0 8)))])
noncomputable def S406 : Sum1 := (67, [cR 64, cR 57, cI 4 4, cI 5 5, cI 0 127], [], [], [], [([cR 64, cR 57, cI 4 4, cI 5 5, cI 0 127], [], [], some (.inl (cI 0 0))), ([cR 64, cR 57, cI 4 4, cI 5 5, cI 0 127], [], [], some (.inl (cI 0 8)))])
noncomputable def S407 : Sum1 := (62, [cR 64, cR 57, cI 6 6], [((56, 3), 5, 5)], [581], [(64, 5, 6), (65, 1, 8), (66, 0, 8), (68, 0, 8)], [([cR 64, cR 57, cI 6 6], [((64, 5), 7, 7)], [], none)])
noncomputable def S408 : Sum1 := (67, [cR 64, cR 57, cI 0 0, cI 6 6, cI 255 255], [], [], [], [([cR 64, cR 57, cI 0 0, cI 6 6, cI 255 255], [], [], some (.inl (cI 0 0))), ([cR 64, cR 57, cI 0 0, cI 6 6, cI 255 255], [], [], some (.inl (cI 0 8)))])
noncomputable def S409 : Sum1 := (67, [cR 64, cR 57, cI 1 1, cI 6 6, cI 0 255], [], [], [], [([cR 64, cR 57, cI 1 1, cI 6 6, cI 0 255], [], [], some (.inl (cI 0 0))), ([cR 64, cR 57, cI 1 1, cI 6 6, cI 0 255], [], [], some (.inl (cI 0 8)))])
noncomputable def S410 : Sum1 := (67, [cR 64, cR 57, cI 2 2, cI 6 6, cI 0 255], [], [], [], [([cR 64, cR 57, cI 2 2, cI 6 6, cI 0 255], [], [], some (.inl (cI 0 0))), ([cR 64, cR 57, cI 2 2, cI 6 6, cI 0 255], [], [], some (.inl (cI 0 8)))])
noncomputable def S411 : Sum1 := (67, [cR 64, cR 57, cI 3 3, cI 6 6, cI 0 255], [], [], [], [([cR 64, cR 57, cI 3 3, cI 6 6, cI 0 255], [], [], some (.inl (cI 0 0))), ([cR 64, cR 57, cI 3 3, cI 6 6, cI 0 255], [], [], some (.inl (cI 0 8)))])
noncomputable def S412 : Sum1 := (67, [cR 64, cR 57, cI 4 4, cI 6 6, cI 0 255], [], [], [], [([cR 64, cR 57, cI 4 4, cI 6 6, cI 0 255], [], [], some (.inl (cI 0 0))), ([cR 64, cR 57, cI 4 4, cI 6 6, cI 0 255], [], [], some (.inl (cI 0 8)))])
noncomputable def S413 : Sum1 := (67, [cR 64, cR 57, cI 5 5, cI 6 6, cI 0 255], [], [], [], [([cR 64, cR 57, cI 5 5, cI 6 6, cI 0 255], [], [], some (.inl (cI 0 0))), ([cR 64, cR 57, cI 5 5, cI 6 6, cI 0 255], [], [], some (.inl (cI 0 8)))])
noncomputable def S414 : Sum1 := (62, [cR 64, cR 57, cI 7 7], [((56, 3), 6, 6)], [581], [(64, 5, 6), (65, 1, 8), (66, 0, 8), (68, 0, 8)], [([cR 64, cR 57, cI 7 7], [((64, 5), 8, 8)], [], none)])
noncomputable def S415 : Sum1 := (67, [cR 64, cR 57, cI 0 0, cI 7 7, cI 511 511], [], [], [], [([cR 64, cR 57, cI 0 0, cI 7 7, cI 511 511], [], [], some (.inl (cI 0 0))), ([cR 64, cR 57, cI 0 0, cI 7 7, cI 511 511], [], [], some (.inl (cI 0 8)))])
noncomputable def S416 : Sum1 := (67, [cR 64, cR 57, cI 1 1, cI 7 7, cI 0 511], [], [], [], [([cR 64, cR 57, cI 1 1, cI 7 7, cI 0 511], [], [], some (.inl (cI 0 0))), ([cR 64, cR 57, cI 1 1, cI 7 7, cI 0 511], [], [], some (.inl (cI 0 8)))])
noncomputable def S417 : Sum1 := (67, [cR 64, cR 57, cI 2 2, cI 7 7, cI 0 511], [], [], [], [([cR 64, cR 57, cI 2 2, cI 7 7, cI 0 511], [], [], some (.inl (cI 0 0))), ([cR 64, cR 57, cI 2 2, cI 7 7, cI 0 511], [], [], some (.inl (cI 0 8)))])
noncomputable def S418 : Sum1 := (67, [cR 64, cR 57, cI 3 3, cI 7 7, cI 0 511], [], [], [], [([cR 64, cR 57, cI 3 3, cI 7 7, cI 0 511], [], [], some (.inl (cI 0 0))), ([cR 64, cR 57, cI 3 3, cI 7 7, cI 0 511], [], [], some (.inl (cI 0 8)))])
noncomputable def S419 : Sum1 := (67, [cR 64, cR 57, cI 4 4, cI 7 7, cI 0 511], [], [], [], [([cR 64, cR 57, cI 4 4, cI 7 7, cI 0 511], [], [], some (.inl (cI 0 0))), ([cR 64, cR 57, cI 4 4, cI 7 7, cI 0 511], [], [], some (.inl (cI 0 8)))])
end
section
/-! what is known of the methods, checked (written by emit.py) -/
noncomputable def S420 : Sum1 := (67, [cR 64, cR 57, cI 5 5, cI 7 7, cI 0 511], [], [], [], [([cR 64, cR 57, cI 5 5, cI 7 7, cI 0 511], [], [], some (.inl (cI 0 0))), ([cR 64, cR 57, cI 5 5, cI 7 7, cI 0 511], [], [], some (.inl (cI 0 8)))])
noncomputable def S421 : Sum1 := (67, [cR 64, cR 57, cI 6 6, cI 7 7, cI 0 511], [], [], [], [([cR 64, cR 57, cI 6 6, cI 7 7, cI 0 511], [], [], some (.inl (cI 0 0))), ([cR 64, cR 57, cI 6 6, cI 7 7, cI 0 511], [], [], some (.inl (cI 0 8)))])
noncomputable def S422 : Sum1 := (62, [cR 64, cR 57, cI 8 8], [((56, 3), 7, 7)], [581], [(64, 5, 6), (65, 1, 8), (66, 0, 8), (68, 0, 8)], [([cR 64, cR 57, cI 8 8], [((64, 5), 9, 9)], [], none)])
noncomputable def S423 : Sum1 := (67, [cR 64, cR 59, cI 0 0, cI 3 3, cI 31 31], [], [], [], [([cR 64, cR 59, cI 0 0, cI 3 3, cI 31 31], [], [], some (.inl (cI 0 0))), ([cR 64, cR 59, cI 0 0, cI 3 3, cI 31 31], [], [], some (.inl (cI 0 8)))])
noncomputable def S424 : Sum1 := (67, [cR 64, cR 59, cI 1 1, cI 3 3, cI 0 31], [], [], [], [([cR 64, cR 59, cI 1 1, cI 3 3, cI 0 31], [], [], some (.inl (cI 0 0))), ([cR 64, cR 59, cI 1 1, cI 3 3, cI 0 31], [], [], some (.inl (cI 0 8)))])
noncomputable def S425 : Sum1 := (67, [cR 64, cR 59, cI 2 2, cI 3 3, cI 0 31], [], [], [], [([cR 64, cR 59, cI 2 2, cI 3 3, cI 0 31], [], [], some (.inl (cI 0 0))), ([cR 64, cR 59, cI 2 2, cI 3 3, cI 0 31], [], [], some (.inl (cI 0 8)))])
noncomputable def S426 : Sum1 := (62, [cR 64, cR 59, cI 4 4], [((58, 3), 3, 3)], [643], [(64, 5, 6), (65, 1, 8), (66, 0, 8), (68, 0, 8)], [([cR 64, cR 59, cI 4 4], [((64, 5), 5, 5)], [], none)])
noncomputable def S427 : Sum1 := (67, [cR 64, cR 59, cI 0 0, cI 4 4, cI 63 63], [], [], [], [([cR 64, cR 59, cI 0 0, cI 4 4, cI 63 63], [], [], some (.inl (cI 0 0))), ([cR 64, cR 59, cI 0 0, cI 4 4, cI 63 63], [], [], some (.inl (cI 0 8)))])
noncomputable def S428 : Sum1 := (67, [cR 64, cR 59, cI 1 1, cI 4 4, cI 0 63], [], [], [], [([cR 64, cR 59, cI 1 1, cI 4 4, cI 0 63], [], [], some (.inl (cI 0 0))), ([cR 64, cR 59, cI 1 1, cI 4 4, cI 0 63], [], [], some (.inl (cI 0 8)))])
noncomputable def S429 : Sum1 := (67, [cR 64, cR 59, cI 2 2, cI 4 4, cI 0 63], [], [], [], [([cR 64, cR 59, cI 2 2, cI 4 4, cI 0 63], [], [], some (.inl (cI 0 0))), ([cR 64, cR 59, cI 2 2, cI 4 4, cI 0 63], [], [], some (.inl (cI 0 8)))])
noncomputable def S430 : Sum1 := (67, [cR 64, cR 59, cI 3 3, cI 4 4, cI 0 63], [], [], [], [([cR 64, cR 59, cI 3 3, cI 4 4, cI 0 63], [], [], some (.inl (cI 0 0))), ([cR 64, cR 59, cI 3 3, cI 4 4, cI 0 63], [], [], some (.inl (cI 0 8)))])
noncomputable def S431 : Sum1 := (62, [cR 64, cR 59, cI 5 5], [((58, 3), 4, 4)], [643], [(64, 5, 6), (65, 1, 8), (66, 0, 8), (68, 0, 8)], [([cR 64, cR 59, cI 5 5], [((64, 5), 6, 6)], [], none)])
noncomputable def S432 : Sum1 := (67, [cR 64, cR 59, cI 0 0, cI 5 5, cI 127 127], [], [], [], [([cR 64, cR 59, cI 0 0, cI 5 5, cI 127 127], [], [], some (.inl (cI 0 0))), ([cR 64, cR 59, cI 0 0, cI 5 5, cI 127 127], [], [], some (.inl (cI 0 8)))])
noncomputable def S433 : Sum1 := (67, [cR 64, cR 59, cI 1 1, cI 5 5, cI 0 127], [], [], [], [([cR 64, cR 59, cI 1 1, cI 5 5, cI 0 127], [], [], some (.inl (cI 0 0))), ([cR 64, cR 59, cI 1 1, cI 5 5, cI 0 127], [], [], some (.inl (cI 0 8)))])
noncomputable def S434 : Sum1 := (67, [cR 64, cR 59, cI 2 2, cI 5 5, cI 0 127], [], [], [], [([cR 64, cR 59, cI 2 2, cI 5 5, cI 0 127], [], [], some (.inl (cI 0 0))), ([cR 64, cR 59, cI 2 2, cI 5 5, cI 0 127], [], [], some (.inl (cI 0 8)))])
noncomputable def S435 : Sum1 := (67, [cR 64, cR 59, cI 3 3, cI 5 5, cI 0 127], [], [], [], [([cR 64, cR 59, cI 3 3, cI 5 5, cI 0 127], [], [], some (.inl (cI 0 0))), ([cR 64, cR 59, cI 3 3, cI 5 5, cI 0 127], [], [], some (.inl (cI 0 8)))])
noncomputable def S436 : Sum1 := (67, [cR 64, cR 59, cI 4 4, cI 5 5, cI 0 127], [], [], [], [([cR 64, cR 59, cI 4 4, cI 5 5, cI 0 127], [], [], some (.inl (cI 0 0))), ([cR 64, cR 59, cI 4 4, cI 5 5, cI 0 127], [], [], some (.inl (cI 0 8)))])
noncomputable def S437 : Sum1 := (62, [cR 64, cR 59, cI 6 6], [((58, 3), 5, 5)], [643], [(64, 5, 6), (65, 1, 8), (66, 0, 8), (68, 0, 8)], [([cR 64, cR 59, cI 6 6], [((64, 5), 7, 7)], [], none)])
noncomputable def S438 : Sum1 := (67, [cR 64, cR 59, cI 0 0, cI 6 6, cI 255 255], [], [], [], [([cR 64, cR 59, cI 0 0, cI 6 6, cI 255 255], [], [], some (.inl (cI 0 0))), ([cR 64, cR 59, cI 0 0, cI 6 6, cI 255 255], [], [], some (.inl (cI 0 8)))])
noncomputable def S439 : Sum1 := (67, [cR 64, cR 59, cI 1 1, cI 6 6, cI 0 255], [], [], [], [([cR 64, cR 59, cI 1 1, cI 6 6, cI 0 255], [], [], some (.inl (cI 0 0))), ([cR 64, cR 59, cI 1 1, cI 6 6, cI 0 255], [], [], some (.inl (cI 0 8)))])
noncomputable def S440 : Sum1 := (67, [cR 64, cR 59, cI 2 2, cI 6 6, cI 0 255], [], [], [], [([cR 64, cR 59, cI 2 2, cI 6 6, cI 0 255], [], [], some (.inl (cI 0 0))), ([cR 64, cR 59, cI 2 2, cI 6 6, cI 0 255], [], [], some (.inl (cI 0 8)))])
noncomputable def S441 : Sum1 := (67, [cR 64, cR 59, cI 3 3, cI 6 6, cI 0 255], [], [], [], [([cR 64, cR 59, cI 3 3, cI 6 6, cI 0 255], [], [], some (.inl (cI 0 0))), ([cR 64, cR 59, cI 3 3, cI 6 6, cI 0 255], [], [], some (.inl (cI 0 8)))])
noncomputable def S442 : Sum1 := (67, [cR 64, cR 59, cI 4 4, cI 6 6, cI 0 255], [], [], [], [([cR 64, cR 59, cI 4 4, cI 6 6, cI 0 255], [], [], some (.inl (cI 0 0))), ([cR 64, cR 59, cI 4 4, cI 6 6, cI 0 255], [], [], some (.inl (cI 0 8)))])
noncomputable def S443 : Sum1 := (67, [cR 64, cR 59, cI 5 5, cI 6 6, cI 0 255], [], [], [], [([cR 64, cR 59, cI 5 5, cI 6 6, cI 0 255], [], [], some (.inl (cI 0 0))), ([cR 64, cR 59, cI 5 5, cI 6 6, cI 0 255], [], [], some (.inl (cI 0 8)))])
noncomputable def S444 : Sum1 := (62, [cR 64, cR 59, cI 7 7], [((58, 3), 6, 6)], [643], [(64, 5, 6), (65, 1, 8), (66, 0, 8), (68, 0, 8)], [([cR 64, cR 59, cI 7 7], [((64, 5), 8, 8)], [], none)])
noncomputable def S445 : Sum1 := (67, [cR 64, cR 59, cI 0 0, cI 7 7, cI 511 511], [], [], [], [([cR 64, cR 59, cI 0 0, cI 7 7, cI 511 511], [], [], some (.inl (cI 0 0))), ([cR 64, cR 59, cI 0 0, cI 7 7, cI 511 511], [], [], some (.inl (cI 0 8)))])
noncomputable def S446 : Sum1 := (67, [cR 64, cR 59, cI 1 1, cI 7 7, cI 0 511], [], [], [], [([cR 64, cR 59, cI 1 1, cI 7 7, cI 0 511], [], [], some (.inl (cI 0 0))), ([cR 64, cR 59, cI 1 1, cI 7 7, cI 0 511], [], [], some (.inl (cI 0 8)))])
noncomputable def S447 : Sum1 := (67, [cR 64, cR 59, cI 2 2, cI 7 7, cI 0 511], [], [], [], [([cR 64, cR 59, cI 2 2, cI 7 7, cI 0 511], [], [], some (.inl (cI 0 0))), ([cR 64, cR 59, cI 2 2, cI 7 7, cI 0 511], [], [], some (.inl (cI 0 8)))])
noncomputable def S448 : Sum1 := (67, [cR 64, cR 59, cI 3 3, cI 7 7, cI 0 511], [], [], [], [([cR 64, cR 59, cI 3 3, cI 7 7, cI 0 511], [], [], some (.inl (cI 0 0))), ([cR 64, cR 59, cI 3 3, cI 7 7, cI 0 511], [], [], some (.inl (cI 0 8)))])
noncomputable def S449 : Sum1 := (67, [cR 64, cR 59, cI 4 4, cI 7 7, cI 0 511], [], [], [], [([cR 64, cR 59, cI 4 4, cI 7 7, cI 0 511], [], [], some (.inl (cI 0 0))), ([cR 64, cR 59, cI 4 4, cI 7 7, cI 0 511], [], [], some (.inl (cI 0 8)))])
noncomputable def S450 : Sum1 := (67, [cR 64, cR 59, cI 5 5, cI 7 7, cI 0 511], [], [], [], [([cR 64, cR 59, cI 5 5, cI 7 7, cI 0 511], [], [], some (.inl (cI 0 0))), ([cR 64, cR 59, cI 5 5, cI 7 7, cI 0 511], [], [], some (.inl (cI 0 8)))])
noncomputable def S451 : Sum1 := (67, [cR 64, cR 59, cI 6 6, cI 7 7, cI 0 511], [], [], [], [([cR 64, cR 59, cI 6 6, cI 7 7, cI 0 511], [], [], some (.inl (cI 0 0))), ([cR 64, cR 59, cI 6 6, cI 7 7, cI 0 511], [], [], some (.inl (cI 0 8)))])
noncomputable def S452 : Sum1 := (62, [cR 64, cR 59, cI 8 8], [((58, 3), 7, 7)], [643], [(64, 5, 6), (65, 1, 8), (66, 0, 8), (68, 0, 8)], [([cR 64, cR 59, cI 8 8], [((64, 5), 9, 9)], [], none)])
noncomputable def S453 : Sum1 := (67, [cR 64, cR 61, cI 0 0, cI 3 3, cI 31 31], [], [], [], [([cR 64, cR 61, cI 0 0, cI 3 3, cI 31 31], [], [], some (.inl (cI 0 0))), ([cR 64, cR 61, cI 0 0, cI 3 3, cI 31 31], [], [], some (.inl (cI 0 8)))])
noncomputable def S454 : Sum1 := (67, [cR 64, cR 61, cI 1 1, cI 3 3, cI 0 31], [], [], [], [([cR 64, cR 61, cI 1 1, cI 3 3, cI 0 31], [], [], some (.inl (cI 0 0))), ([cR 64, cR 61, cI 1 1, cI 3 3, cI 0 31], [], [], some (.inl (cI 0 8)))])
noncomputable def S455 : Sum1 := (67, [cR 64, cR 61, cI 2 2, cI 3 3, cI 0 31], [], [], [], [([cR 64, cR 61, cI 2 2, cI 3 3, cI 0 31], [], [], some (.inl (cI 0 0))), ([cR 64, cR 61, cI 2 2, cI 3 3, cI 0 31], [], [], some (.inl (cI 0 8)))])
noncomputable def S456 : Sum1 := (62, [cR 64, cR 61, cI 4 4], [((60, 3), 3, 3)], [705], [(64, 5, 6), (65, 1, 8), (66, 0, 8), (68, 0, 8)], [([cR 64, cR 61, cI 4 4], [((64, 5), 5, 5)], [], none)])
noncomputable def S457 : Sum1 := (67, [cR 64, cR 61, cI 0 0, cI 4 4, cI 63 63], [], [], [], [([cR 64, cR 61, cI 0 0, cI 4 4, cI 63 63], [], [], some (.inl (cI 0 0))), ([cR 64, cR 61, cI 0 0, cI 4 4, cI 63 63], [], [], some (.inl (cI 0 8)))])
noncomputable def S458 : Sum1 := (67, [cR 64, cR 61, cI 1 1, cI 4 4, cI 0 63], [], [], [], [([cR 64, cR 61, cI 1 1, cI 4 4, cI 0 63], [], [], some (.inl (cI 0 0))), ([cR 64, cR 61, cI 1 1, cI 4 4, cI 0 63], [], [], some (.inl (cI 0 8)))])
noncomputable def S459 : Sum1 := (67, [cR 64, cR 61, cI 2 2, cI 4 4, cI 0 63], [], [], [], [([cR 64, cR 61, cI 2 2, cI 4 4, cI 0 63], [], [], some (.inl (cI 0 0))), ([cR 64, cR 61, cI 2 2, cI 4 4, cI 0 63], [], [], some (.inl (cI 0 8)))])
noncomputable def S460 : Sum1 := (67, [cR 64, cR 61, cI 3 3, cI 4 4, cI 0 63], [], [], [], [([cR 64, cR 61, cI 3 3, cI 4 4, cI 0 63], [], [], some (.inl (cI 0 0))), ([cR 64, cR 61, cI 3 3, cI 4 4, cI 0 63], [], [], some (.inl (cI 0 8)))])
noncomputable def S461 : Sum1 := (62, [cR 64, cR 61, cI 5 5], [((60, 3), 4, 4)], [705], [(64, 5, 6), (65, 1, 8), (66, 0, 8), (68, 0, 8)], [([cR 64, cR 61, cI 5 5], [((64, 5), 6, 6)], [], none)])
noncomputable def S462 : Sum1 := (67, [cR 64, cR 61, cI 0 0, cI 5 5, cI 127 127], [], [], [], [([cR 64, cR 61, cI 0 0, cI 5 5, cI 127 127], [], [], some (.inl (cI 0 0))), ([cR 64, cR 61, cI 0 0, cI 5 5, cI 127 127], [], [], some (.inl (cI 0 8)))])
noncomputable def S463 : Sum1 := (67, [cR 64, cR 61, cI 1 1, cI 5 5, cI 0 127], [], [], [], [([cR 64, cR 61, cI 1 1, cI 5 5, cI 0 127], [], [], some (.inl (cI 0 0))), ([cR 64, cR 61, cI 1 1, cI 5 5, cI 0 127], [], [], some (.inl (cI 0 8)))])
noncomputable def S464 : Sum1 := (67, [cR 64, cR 61, cI 2 2, cI 5 5, cI 0 127], [], [], [], [([cR 64, cR 61, cI 2 2, cI 5 5, cI 0 127], [], [], some (.inl (cI 0 0))), ([cR 64, cR 61, cI 2 2, cI 5 5, cI 0 127], [], [], some (.inl (cI 0 8)))])
noncomputable def S465 : Sum1 := (67, [cR 64, cR 61, cI 3 3, cI 5 5, cI 0 127], [], [], [], [([cR 64, cR 61, cI 3 3, cI 5 5, cI 0 127], [], [], some (.inl (cI 0 0))), ([cR 64, cR 61, cI 3 3, cI 5 5, cI 0 127], [], [], some (.inl (cI 0 8)))])
noncomputable def S466 : Sum1 := (67, [cR 64, cR 61, cI 4 4, cI 5 5, cI 0 127], [], [], [], [([cR 64, cR 61, cI 4 4, cI 5 5, cI 0 127], [], [], some (.inl (cI 0 0))), ([cR 64, cR 61, cI 4 4, cI 5 5, cI 0 127], [], [], some (.inl (cI 0 8)))])
noncomputable def S467 : Sum1 := (62, [cR 64, cR 61, cI 6 6], [((60, 3), 5, 5)], [705], [(64, 5, 6), (65, 1, 8), (66, 0, 8), (68, 0, 8)], [([cR 64, cR 61, cI 6 6], [((64, 5), 7, 7)], [], none)])
noncomputable def S468 : Sum1 := (67, [cR 64, cR 61, cI 0 0, cI 6 6, cI 255 255], [], [], [], [([cR 64, cR 61, cI 0 0, cI 6 6, cI 255 255], [], [], some (.inl (cI 0 0))), ([cR 64, cR 61, cI 0 0, cI 6 6, cI 255 255], [], [], some (.inl (cI 0 8)))])
noncomputable def S469 : Sum1 := (67, [cR 64, cR 61, cI 1 1, cI 6 6, cI 0 255], [], [], [], [([cR 64, cR 61, cI 1 1, cI 6 6, cI 0 255], [], [], some (.inl (cI 0 0))), ([cR 64, cR 61, cI 1 1, cI 6 6, cI 0 255], [], [], some (.inl (cI 0 8)))])
noncomputable def S470 : Sum1 := (67, [cR 64, cR 61, cI 2 2, cI 6 6, cI 0 255], [], [], [], [([cR 64, cR 61, cI 2 2, cI 6 6, cI 0 255], [], [], some (.inl (cI 0 0))), ([cR 64, cR 61, cI 2 2, cI 6 6, cI 0 255], [], [], some (.inl (cI 0 8)))])
noncomputable def S471 : Sum1 := (67, [cR 64, cR 61, cI 3 3, cI 6 6, cI 0 255], [], [], [], [([cR 64, cR 61, cI 3 3, cI 6 6, cI 0 255], [], [], some (.inl (cI 0 0))), ([cR 64, cR 61, cI 3 3, cI 6 6, cI 0 255], [], [], some (.inl (cI 0 8)))])
noncomputable def S472 : Sum1 := (67, [cR 64, cR 61, cI 4 4, cI 6 6, cI 0 255], [], [], [], [([cR 64, cR 61, cI 4 4, cI 6 6, cI 0 255], [], [], some (.inl (cI 0 0))), ([cR 64, cR 61, cI 4 4, cI 6 6, cI 0 255], [], [], some (.inl (cI 0 8)))])
noncomputable def S473 : Sum1 := (67, [cR 64, cR 61, cI 5 5, cI 6 6, cI 0 255], [], [], [], [([cR 64, cR 61, cI 5 5, cI 6 6, cI 0 255], [], [], some (.inl (cI 0 0))), ([cR 64, cR 61, cI 5 5, cI 6 6, cI 0 255], [], [], some (.inl (cI 0 8)))])
noncomputable def S474 : Sum1 := (62, [cR 64, cR 61, cI 7 7], [((60, 3), 6, 6)], [705], [(64, 5, 6), (65, 1, 8), (66, 0, 8), (68, 0, 8)], [([cR 64, cR 61, cI 7 7], [((64, 5), 8, 8)], [], none)])
noncomputable def S475 : Sum1 := (67, [cR 64, cR 61, cI 0 0, cI 7 7, cI 511 511], [], [], [], [([cR 64, cR 61, cI 0 0, cI 7 7, cI 511 511], [], [], some (.inl (cI 0 0))), ([cR 64, cR 61, cI 0 0, cI 7 7, cI 511 511], [], [], some (.inl (cI 0 8)))])
noncomputable def S476 : Sum1 := (67, [cR 64, cR 61, cI 1 1, cI 7 7, cI 0 511], [], [], [], [([cR 64, cR 61, cI 1 1, cI 7 7, cI 0 511], [], [], some (.inl (cI 0 0))), ([cR 64, cR 61, cI 1 1, cI 7 7, cI 0 511], [], [], some (.inl (cI 0 8)))])
noncomputable def S477 : Sum1 := (67, [cR 64, cR 61, cI 2 2, cI 7 7, cI 0 511], [], [], [], [([cR 64, cR 61, cI 2 2, cI 7 7, cI 0 511], [], [], some (.inl (cI 0 0))), ([cR 64, cR 61, cI 2 2, cI 7 7, cI 0 511], [], [], some (.inl (cI 0 8)))])
noncomputable def S478 : Sum1 := (67, [cR 64, cR 61, cI 3 3, cI 7 7, cI 0 511], [], [], [], [([cR 64, cR 61, cI 3 3, cI 7 7, cI 0 511], [], [], some (.inl (cI 0 0))), ([cR 64, cR 61, cI 3 3, cI 7 7, cI 0 511], [], [], some (.inl (cI 0 8)))])
noncomputable def S479 : Sum1 := (67, [cR 64, cR 61, cI 4 4, cI 7 7, cI 0 511], [], [], [], [([cR 64, cR 61, cI 4 4, cI 7 7, cI 0 511], [], [], some (.inl (cI 0 0))), ([cR 64, cR 61, cI 4 4, cI 7 7, cI 0 511], [], [], some (.inl (cI 0 8)))])
end
section
/-! what is known of the methods, checked (written by emit.py) -/
noncomputable def S480 : Sum1 := (67, [cR 64, cR 61, cI 5 5, cI 7 7, cI 0 511], [], [], [], [([cR 64, cR 61, cI 5 5, cI 7 7, cI 0 511], [], [], some (.inl (cI 0 0))), ([cR 64, cR 61, cI 5 5, cI 7 7, cI 0 511], [], [], some (.inl (cI 0 8)))])
noncomputable def S481 : Sum1 := (67, [cR 64, cR 61, cI 6 6, cI 7 7, cI 0 511], [], [], [], [([cR 64, cR 61, cI 6 6, cI 7 7, cI 0 511], [], [], some (.inl (cI 0 0))), ([cR 64, cR 61, cI 6 6, cI 7 7, cI 0 511], [], [], some (.inl (cI 0 8)))])
noncomputable def S482 : Sum1 := (62, [cR 64, cR 61, cI 8 8], [((60, 3), 7, 7)], [705], [(64, 5, 6), (65, 1, 8), (66, 0, 8), (68, 0, 8)], [([cR 64, cR 61, cI 8 8], [((64, 5), 9, 9)], [], none)])
noncomputable def S483 : Sum1 := (165, [cR 0, cI (-2147483648) 2147483647, cI 1 1], [], [], [(64, 5, 6), (65, 1, 8), (66, 0, 8), (68, 0, 8)], [([cR 0, cI (-2147483648) 2147483647, cI 1 1], [], [], some (.inl (cI (-6) (-2)))), ([cR 0, cI 0 3, cI 1 1], [((15, 0), 1, 8), ((64, 5), 2, 9)], [], some (.inl (cI 0 0)))])
/-! by hand: decode and readCode of the class (S483 in place of the executor's check of 159 summaries; wants q285, q302, q305, q322, q331) -/
noncomputable def RF7 : List Rng := [(64, 5, 6), (65, 1, 8), (66, 0, 8), (68, 0, 8)]
section RDC
variable {h : pm_H} {d : Nat} {x : Int32}
theorem sp_begin7 {p : Nat} (hh : HH h) (p8 : p ≤ 8) : Sp (d + 1) 58 h [.ref 64, .int (nJ p)] (fun h' r => r = none ∧ HH h' ∧ fr_g RF7 h h' ∧ gi h' 64 5 = nJ (p + 1)) := by
  refine Sp_of aiX7_begin rfl rfl rfl ?_
  have L0 : pm_get (lv_args 0 [.ref 64, .int (nJ p)]) 0 = some (.ref 64) := rfl
  have L1 : pm_get (lv_args 0 [.ref 64, .int (nJ p)]) 1 = some (.int (nJ p)) := rfl
  generalize lv_args 0 [.ref 64, .int (nJ p)] = lv at L0 L1 ⊢
  refine E_al rfl L0 ?_
  refine E_il rfl L1 ?_
  refine E_ci 1 rfl (by decide) ?_
  refine E_bin rfl (nJ_add _ _) ?_
  refine E_opf (q := (0, 9)) rfl hh rfl rfl ?_
  have h1 : HH (pt h 64 5 (nJ (p + 1))) := HH_ptn hh rfl (by omega) (by omega) (by omega)
  refine E_al rfl L0 ?_
  refine E_ci 1 rfl (by decide) ?_
  refine E_opf (q := (0, 9)) rfl h1 rfl rfl ?_
  have h2 : HH (pt (pt h 64 5 (nJ (p + 1))) 64 6 (nJ 1)) := HH_ptn h1 rfl (by omega) (by omega) (by omega)
  refine E_al rfl L0 ?_
  refine E_ogr (q := 66) rfl h2 rfl rfl ?_
  refine E_ci 0 rfl (by decide) ?_
  refine E_ci 0 rfl (by decide) ?_
  refine E_ias rfl h2 rfl (by omega) (by decide) ?_
  refine E_ret rfl ⟨rfl, HH_ptn h2 (bd_u rfl (by omega)) (by omega) (by omega) (by omega), fr_ptr (l := 0) (u := 8) rfl (by omega) (by omega) (fr_ptr (l := 5) (u := 6) rfl (by omega) (by omega) (fr_ptr (l := 5) (u := 6) rfl (by omega) (by omega) (fr_rf _ _))), ?_⟩
  rw [gi_ne (by omega), gi_ne (by omega)]
  exact gi_pt hh (q := (0, 9)) rfl (by rw [nJ_toInt (by omega)]; show (0 : Int) ≤ _; omega) (by rw [nJ_toInt (by omega)]; show _ ≤ (9 : Int); omega)
theorem sp_low7 (hh : HH h) (x0 : 0 ≤ x.toInt) (x5 : x.toInt ≤ 511) : Sp 1 70 h [.int x] (fun h' r => h' = h ∧ ∃ e, e ≤ 8 ∧ r = some (.int (nJ e))) := by
  refine Sp_of aiX7_lowestBit rfl rfl rfl ?_
  have L0 : pm_get (lv_args 0 [.int x]) 0 = some (.int x) := rfl
  generalize lv_args 0 [.int x] = lv at L0 ⊢
  refine E_ci 0 rfl (by decide) ?_
  refine E_is rfl (fun lv1 K1 kp => ?_)
  have M0 := kp 0 _ (by decide) rfl L0
  have loop : ∀ (j : Nat) {k : Nat} (lv : List (Nat × Value)), k + j = 9 → pm_get lv 0 = some (.int x) → pm_get lv 1 = some (.int (nJ k)) → Ends (pm_at tX7_lowestBit) (pm_Rt pm_P 0) (2, lv, [], h, 0, 0) (fun h' r => h' = h ∧ ∃ e, e ≤ 8 ∧ r = some (.int (nJ e))) := by
    intro j
    induction j with
    | zero =>
      intro k lv hj L0 L1
      refine E_il rfl L1 ?_
      refine E_ci 9 rfl (by decide) ?_
      refine E_icT rfl (decide_eq_true ((nJ_le (by omega) (by omega)).mpr (by omega))) ?_
      refine E_ci 0 rfl (by decide) ?_
      exact E_rti rfl ⟨rfl, 0, by omega, rfl⟩
    | succ j ih =>
      intro k lv hj L0 L1
      refine E_il rfl L1 ?_
      refine E_ci 9 rfl (by decide) ?_
      refine E_icF rfl (decide_eq_false (fun q => absurd ((nJ_le (by omega) (by omega)).mp q) (by omega))) ?_
      refine E_il rfl L0 ?_
      refine E_il rfl L1 ?_
      refine E_bin rfl rfl ?_
      refine E_ci 1 rfl (by decide) ?_
      refine E_bin rfl rfl ?_
      by_cases b : x >>> (nJ k &&& 31) &&& nJ 1 = 0
      · refine E_ifT rfl (decide_eq_true b) ?_
        refine E_inc rfl L1 (nJ_inc _) (fun lv1 K1 kp => ?_)
        refine E_goto rfl ?_
        exact ih lv1 (by omega) (kp 0 _ (by decide) rfl L0) K1
      · refine E_ifF rfl (decide_eq_false b) ?_
        refine E_il rfl L1 ?_
        exact E_rti rfl ⟨rfl, k, by omega, rfl⟩
  exact loop 9 lv1 (by omega) M0 K1
theorem sp_lu7 {c i n : Nat} (hc : hs0[c]? = some (.inr (.inl 60))) (hh : HH h) (n7 : n ≤ 7) (i7 : i ≤ n) (x0 : 0 ≤ x.toInt) (x5 : x.toInt ≤ 511) : Sp 2 67 h [.ref 64, .ref c, .int (nJ i), .int (nJ n), .int x] (fun h' r => h' = h ∧ ∃ e, e ≤ 8 ∧ r = some (.int (nJ e))) := by
  refine Sp_of aiX7_leastUnwritten rfl rfl rfl ?_
  have L1 : pm_get (lv_args 0 [.ref 64, .ref c, .int (nJ i), .int (nJ n), .int x]) 1 = some (.ref c) := rfl
  have L2 : pm_get (lv_args 0 [.ref 64, .ref c, .int (nJ i), .int (nJ n), .int x]) 2 = some (.int (nJ i)) := rfl
  have L3 : pm_get (lv_args 0 [.ref 64, .ref c, .int (nJ i), .int (nJ n), .int x]) 3 = some (.int (nJ n)) := rfl
  have L4 : pm_get (lv_args 0 [.ref 64, .ref c, .int (nJ i), .int (nJ n), .int x]) 4 = some (.int x) := rfl
  generalize lv_args 0 [.ref 64, .ref c, .int (nJ i), .int (nJ n), .int x] = lv at L1 L2 L3 L4 ⊢
  have loop : ∀ (j : Nat) {k : Nat} {y : Int32} (lv : List (Nat × Value)), k + j = n → 0 ≤ y.toInt → y.toInt ≤ 511 → pm_get lv 1 = some (.ref c) → pm_get lv 3 = some (.int (nJ n)) → pm_get lv 5 = some (.int y) → pm_get lv 6 = some (.int (nJ k)) → Ends (pm_at tX7_leastUnwritten) (pm_Rt pm_P 1) (7, lv, [], h, 0, 0) (fun h' r => h' = h ∧ ∃ e, e ≤ 8 ∧ r = some (.int (nJ e))) := by
    intro j
    induction j with
    | zero =>
      intro k y lv hj y0 y5 L1 L3 L5 L6
      refine E_il rfl L6 ?_
      refine E_il rfl L3 ?_
      refine E_icT rfl (decide_eq_true ((nJ_le (by omega) (by omega)).mpr (by omega))) ?_
      refine E_il rfl L5 ?_
      refine E_call rfl (sp_low7 hh y0 y5) (chkS rfl (by show 0 ≤ 8; decide)) (fun h1 r1 => ?_)
      rintro ⟨e1, e, he, f1⟩
      rw [e1, f1]
      exact E_rti rfl ⟨rfl, e, he, rfl⟩
    | succ j ih =>
      intro k y lv hj y0 y5 L1 L3 L5 L6
      refine E_il rfl L6 ?_
      refine E_il rfl L3 ?_
      refine E_icF rfl (decide_eq_false (fun q => absurd ((nJ_le (by omega) (by omega)).mp q) (by omega))) ?_
      refine E_il rfl L5 ?_
      refine E_ci 1 rfl (by decide) ?_
      refine E_al rfl L1 ?_
      refine E_il rfl L6 ?_
      refine E_lal rfl hh hc (by omega) (by decide) ?_
      refine E_l2i rfl rfl ?_
      refine E_bin rfl rfl ?_
      refine E_c rfl ?_
      refine E_bin rfl rfl ?_
      refine E_bin rfl rfl ?_
      refine E_is rfl (fun lv1 K5 kp => ?_)
      refine E_inc rfl (kp 6 _ (by decide) rfl L6) (nJ_inc _) (fun lv2 K6 kp2 => ?_)
      refine E_goto rfl ?_
      have a := ai_and1 (x := y) (y := (nJ 1 <<< ((gl h c k).toInt32 &&& 31)) ^^^ -1) y0
      exact ih lv2 (by omega) a.1 (by omega) (kp2 1 _ (by decide) rfl (kp 1 _ (by decide) rfl L1)) (kp2 3 _ (by decide) rfl (kp 3 _ (by decide) rfl L3)) (kp2 5 _ (by decide) rfl K5) K6
  refine E_il rfl L4 ?_
  refine E_is rfl (fun lv1 K5 kp => ?_)
  refine E_il rfl (kp 2 _ (by decide) rfl L2) ?_
  refine E_is rfl (fun lv2 K6 kp2 => ?_)
  exact loop (n - i) lv2 (by omega) x0 x5 (kp2 1 _ (by decide) rfl (kp 1 _ (by decide) rfl L1)) (kp2 3 _ (by decide) rfl (kp 3 _ (by decide) rfl L3)) (kp2 5 _ (by decide) rfl K5) K6
/-- a call by a summary without cases that matter -/
theorem sp_add7 {e v : Nat} (hh : HH h) (he : e ≤ 8) (hv : v ≤ 8) : Sp 1 57 h [.ref 64, .int (nJ e), .int (nJ v)] (fun h' r => r = none ∧ HH h' ∧ fr_g RF7 h h' ∧ gi h' 64 5 = gi h 64 5) := by
  have z1 := nJ_toInt (n := e) (by omega)
  have z2 := nJ_toInt (n := v) (by omega)
  refine Sp_mono ?_ (Sp_sum q331 (as := [.ref 64, .int (nJ e), .int (nJ v)]) hh ⟨rfl, ⟨by show (0 : Int) ≤ (nJ e).toInt; omega, by show (nJ e).toInt ≤ 8; omega⟩, ⟨by show (0 : Int) ≤ (nJ v).toInt; omega, by show (nJ v).toInt ≤ 8; omega⟩, trivial⟩ (fun _ hq => absurd hq List.not_mem_nil) (fun _ hq => absurd hq List.not_mem_nil))
  rintro h' r ⟨a, b, C, hC, c⟩
  have e := List.mem_singleton.mp hC
  subst e
  refine ⟨?_, a, fr_wk rfl b, fr_gi b rfl⟩
  match r, c.2.2.2 with
  | none, _ => rfl
theorem sp_clr7 (hh : HH h) : Sp 1 60 h [.ref 64] (fun h' r => r = none ∧ HH h' ∧ fr_g RF7 h h' ∧ gi h' 64 5 = gi h 64 5) := by
  refine Sp_mono ?_ (Sp_sum q302 (as := [.ref 64]) hh ⟨rfl, trivial⟩ (fun _ hq => absurd hq List.not_mem_nil) (fun _ hq => absurd hq List.not_mem_nil))
  rintro h' r ⟨a, b, C, hC, c⟩
  have e := List.mem_singleton.mp hC
  subst e
  refine ⟨?_, a, fr_wk rfl b, fr_gi b rfl⟩
  match r, c.2.2.2 with
  | none, _ => rfl
theorem sp_hng7 (hh : HH h) : Sp 2 64 h [.ref 64] (fun h' r => r = none ∧ HH h' ∧ fr_g RF7 h h' ∧ gi h' 64 5 = gi h 64 5) := by
  refine Sp_mono ?_ (Sp_sum q322 (as := [.ref 64]) hh ⟨rfl, trivial⟩ (fun _ hq => absurd hq List.not_mem_nil) (fun _ hq => absurd hq List.not_mem_nil))
  rintro h' r ⟨a, b, C, hC, c⟩
  have e := List.mem_singleton.mp hC
  subst e
  refine ⟨?_, a, fr_wk rfl b, fr_gi b rfl⟩
  match r, c.2.2.2 with
  | none, _ => rfl
theorem bx_tab : ∀ p : Fin 9, 0 ≤ ((nJ 1 <<< (nJ (p.val + 1) &&& 31)) - nJ 1).toInt ∧ ((nJ 1 <<< (nJ (p.val + 1) &&& 31)) - nJ 1).toInt ≤ 511 := by decide +kernel
theorem l2i_nJ7 {y : Int64} (h0 : 0 ≤ y.toInt) (h8 : y.toInt ≤ 8) : y.toInt32 = nJ y.toInt.toNat := by
  apply Int32.toInt_inj.mp
  rw [Int64.toInt_toInt32, nJ_toInt (by omega), Int.bmod_eq_of_le (by omega) (by omega)]
  omega
theorem sp_decode7 {c p : Nat} (hc : hs0[c]? = some (.inr (.inl 60))) (cn : RF7.all (fun r => !(Nat.beq r.1 c)) = true) (hh : HH h) (p1 : 1 ≤ p) (p8 : p ≤ 8) (V : ∀ m, m < p - 1 → 0 ≤ (gl h c m).toInt ∧ (gl h c m).toInt ≤ 8) : Sp 3 62 h [.ref 64, .ref c, .int (nJ p)] (fun h' r => r = none ∧ HH h' ∧ fr_g RF7 h h' ∧ gi h' 64 5 = nJ (p + 1)) := by
  refine Sp_of aiX7_decode rfl rfl rfl ?_
  have L0 : pm_get (lv_args 0 [.ref 64, .ref c, .int (nJ p)]) 0 = some (.ref 64) := rfl
  have L1 : pm_get (lv_args 0 [.ref 64, .ref c, .int (nJ p)]) 1 = some (.ref c) := rfl
  have L2 : pm_get (lv_args 0 [.ref 64, .ref c, .int (nJ p)]) 2 = some (.int (nJ p)) := rfl
  generalize lv_args 0 [.ref 64, .ref c, .int (nJ p)] = lv at L0 L1 L2 ⊢
  have gc : ∀ {g : pm_H}, fr_g RF7 h g → ∀ k, gl g c k = gl h c k := fun hf k => by
    unfold gl
    rw [hf c k (rg_no cn k)]
  have loop : ∀ (j : Nat) {g : pm_H} {k : Nat} {y : Int32} (lv : List (Nat × Value)), k + j = p - 1 → HH g → fr_g RF7 h g → gi g 64 5 = nJ (p + 1) → 0 ≤ y.toInt → y.toInt ≤ 511 → pm_get lv 0 = some (.ref 64) → pm_get lv 1 = some (.ref c) → pm_get lv 2 = some (.int (nJ p)) → pm_get lv 3 = some (.int y) → pm_get lv 4 = some (.int (nJ k)) → Ends (pm_at tX7_decode) (pm_Rt pm_P 2) (21, lv, [], g, 0, 0) (fun h' r => r = none ∧ HH h' ∧ fr_g RF7 h h' ∧ gi h' 64 5 = nJ (p + 1)) := by
    intro j
    induction j with
    | zero =>
      intro g k y lv hj hg hf g5 y0 y5 L0 L1 L2 L3 L4
      refine E_il rfl L4 ?_
      refine E_il rfl L2 ?_
      refine E_ci 1 rfl (by decide) ?_
      refine E_bin rfl (nJ_sub p1) ?_
      refine E_icT rfl (decide_eq_true ((nJ_le (by omega) (by omega)).mpr (by omega))) ?_
      refine E_il rfl L3 ?_
      refine E_call rfl (Sp_le (by omega) (sp_low7 hg y0 y5)) (chkS rfl (by show 0 ≤ 8; decide)) (fun h1 r1 => ?_)
      rintro ⟨e1, e, he, f1⟩
      rw [e1, f1]
      refine E_is rfl (fun lv1 K4 kp => ?_)
      have M0 := kp 0 _ (by decide) rfl L0
      have M3 := kp 3 _ (by decide) rfl L3
      refine E_al rfl M0 ?_
      refine E_il rfl K4 ?_
      refine E_il rfl M3 ?_
      refine E_ci 1 rfl (by decide) ?_
      refine E_il rfl K4 ?_
      refine E_bin rfl rfl ?_
      refine E_c rfl ?_
      refine E_bin rfl rfl ?_
      refine E_bin rfl rfl ?_
      have a := ai_and1 (x := y) (y := (nJ 1 <<< (nJ e &&& 31)) ^^^ -1) y0
      refine E_call rfl (Sp_le (by omega) (sp_low7 hg a.1 (by omega))) (chkS rfl (by show 2 ≤ 8; decide)) (fun h2 r2 => ?_)
      rintro ⟨e2, u, hu, f2⟩
      rw [e2, f2]
      refine E_call rfl (Sp_le (by omega) (sp_add7 hg he hu)) (chkO (a := 64) hg rfl rfl rfl rfl (by show 0 ≤ 8; decide)) (fun h3 r3 => ?_)
      rintro ⟨e3, hh3, f3, g3⟩
      rw [e3]
      refine E_al rfl M0 ?_
      refine E_call rfl (sp_hng7 hh3) (chkO (a := 64) hh3 rfl rfl rfl rfl (by show 0 ≤ 8; decide)) (fun h4 r4 => ?_)
      rintro ⟨e4, hh4, f4, g4⟩
      rw [e4]
      exact E_ret rfl ⟨rfl, hh4, fr_trans hf (fr_trans f3 f4), by rw [g4]; exact g3.trans g5⟩
    | succ j ih =>
      intro g k y lv hj hg hf g5 y0 y5 L0 L1 L2 L3 L4
      refine E_il rfl L4 ?_
      refine E_il rfl L2 ?_
      refine E_ci 1 rfl (by decide) ?_
      refine E_bin rfl (nJ_sub p1) ?_
      refine E_icF rfl (decide_eq_false (fun q => absurd ((nJ_le (by omega) (by omega)).mp q) (by omega))) ?_
      refine E_al rfl L0 ?_
      refine E_al rfl L1 ?_
      refine E_il rfl L4 ?_
      refine E_il rfl L2 ?_
      refine E_ci 1 rfl (by decide) ?_
      refine E_bin rfl (nJ_sub p1) ?_
      refine E_il rfl L3 ?_
      refine E_call rfl (sp_lu7 hc hg (by omega) (by omega) y0 y5) (chkO (a := 64) hg rfl rfl rfl rfl (by show 0 ≤ 8; decide)) (fun h1 r1 => ?_)
      rintro ⟨e1, e, he, f1⟩
      rw [e1, f1]
      refine E_is rfl (fun lv1 K5 kp => ?_)
      refine E_il rfl (kp 3 _ (by decide) rfl L3) ?_
      refine E_ci 1 rfl (by decide) ?_
      refine E_il rfl K5 ?_
      refine E_bin rfl rfl ?_
      refine E_c rfl ?_
      refine E_bin rfl rfl ?_
      refine E_bin rfl rfl ?_
      have a := ai_and1 (x := y) (y := (nJ 1 <<< (nJ e &&& 31)) ^^^ -1) y0
      refine E_is rfl (fun lv2 K3 kp2 => ?_)
      have M0 := kp2 0 _ (by decide) rfl (kp 0 _ (by decide) rfl L0)
      have M1 := kp2 1 _ (by decide) rfl (kp 1 _ (by decide) rfl L1)
      have M2 := kp2 2 _ (by decide) rfl (kp 2 _ (by decide) rfl L2)
      have M4 := kp2 4 _ (by decide) rfl (kp 4 _ (by decide) rfl L4)
      have M5 := kp2 5 _ (by decide) rfl K5
      have v := V k (by omega)
      refine E_al rfl M0 ?_
      refine E_il rfl M5 ?_
      refine E_al rfl M1 ?_
      refine E_il rfl M4 ?_
      refine E_lal rfl hg hc (by omega) (by decide) ?_
      refine E_l2i rfl (show (gl g c k).toInt32 = nJ (gl h c k).toInt.toNat from by rw [gc hf]; exact l2i_nJ7 v.1 v.2) ?_
      refine E_call rfl (Sp_le (by omega) (sp_add7 hg he (v := (gl h c k).toInt.toNat) (by omega))) (chkO (a := 64) hg rfl rfl rfl rfl (by show 0 ≤ 8; decide)) (fun h3 r3 => ?_)
      rintro ⟨e3, hh3, f3, g3⟩
      rw [e3]
      refine E_inc rfl M4 (nJ_inc _) (fun lv3 K4 kp3 => ?_)
      refine E_goto rfl ?_
      exact ih lv3 (by omega) hh3 (fr_trans hf f3) (g3.trans g5) a.1 (by omega) (kp3 0 _ (by decide) rfl M0) (kp3 1 _ (by decide) rfl M1) (kp3 2 _ (by decide) rfl M2) (kp3 3 _ (by decide) rfl K3) K4
  refine E_al rfl L0 ?_
  refine E_il rfl L2 ?_
  refine E_call rfl (Sp_le (by omega) (sp_begin7 (d := 0) hh p8)) (chkO (a := 64) hh rfl rfl rfl rfl (by show 0 ≤ 8; decide)) (fun h1 r1 => ?_)
  rintro ⟨e1, hh1, f1, g1⟩
  rw [e1]
  refine E_al rfl L0 ?_
  refine E_call rfl (Sp_le (by omega) (sp_clr7 hh1)) (chkO (a := 64) hh1 rfl rfl rfl rfl (by show 0 ≤ 8; decide)) (fun h2 r2 => ?_)
  rintro ⟨e2, hh2, f2, g2'⟩
  rw [e2]
  have g2 : gi h2 64 5 = nJ (p + 1) := g2'.trans g1
  refine E_ci 1 rfl (by decide) ?_
  refine E_al rfl L0 ?_
  refine E_ogf (q := (0, 9)) rfl hh2 rfl rfl g2 ?_
  refine E_bin rfl rfl ?_
  refine E_ci 1 rfl (by decide) ?_
  refine E_bin rfl rfl ?_
  have bx := bx_tab ⟨p, by omega⟩
  refine E_is rfl (fun lv1 K3 kp => ?_)
  refine E_ci 0 rfl (by decide) ?_
  refine E_is rfl (fun lv2 K4 kp2 => ?_)
  exact loop (p - 1) lv2 (by omega) hh2 (fr_trans f1 f2) g2 bx.1 bx.2 (kp2 0 _ (by decide) rfl (kp 0 _ (by decide) rfl L0)) (kp2 1 _ (by decide) rfl (kp 1 _ (by decide) rfl L1)) (kp2 2 _ (by decide) rfl (kp 2 _ (by decide) rfl L2)) (kp2 3 _ (by decide) rfl K3) K4
noncomputable def RcQ (h : pm_H) (x : Int32) (h' : pm_H) (r : Option Value) : Prop := HH h' ∧ fr_g RF7 h h' ∧ ((∃ y : Int32, r = some (.int y) ∧ -6 ≤ y.toInt ∧ y.toInt ≤ -2) ∨ (0 ≤ x.toInt ∧ x.toInt ≤ 3 ∧ r = some (.int 0) ∧ 1 ≤ (gi h' 15 0).toInt ∧ (gi h' 15 0).toInt ≤ 8 ∧ 2 ≤ (gi h' 64 5).toInt ∧ (gi h' 64 5).toInt ≤ 9))
theorem cn_at : ∀ s, s < 4 → RF7.all (fun r => !(Nat.beq r.1 (55 + 2 * s))) = true
  | 0, _ => rfl
  | 1, _ => rfl
  | 2, _ => rfl
  | 3, _ => rfl
  | s + 4, hs => absurd hs (by omega)
theorem sp_readCode7 (hh : HH h) : Sp 4 165 h [.ref 0, .int x, .int (nJ 1)] (RcQ h x) := by
  refine Sp_of (d := 3) aiX8_readCode rfl rfl rfl ?_
  have L0 : pm_get (lv_args 0 [.ref 0, .int x, .int (nJ 1)]) 0 = some (.ref 0) := rfl
  have L1 : pm_get (lv_args 0 [.ref 0, .int x, .int (nJ 1)]) 1 = some (.int x) := rfl
  have L2 : pm_get (lv_args 0 [.ref 0, .int x, .int (nJ 1)]) 2 = some (.int (nJ 1)) := rfl
  generalize lv_args 0 [.ref 0, .int x, .int (nJ 1)] = lv at L0 L1 L2 ⊢
  have p8 : gn h 15 0 ≤ 8 := gn_hi hh rfl (by decide)
  have pe : gi h 15 0 = nJ (gn h 15 0) := gi_gn hh rfl (by decide)
  have bad : ∀ {y : Int32}, -6 ≤ y.toInt → y.toInt ≤ -2 → RcQ h x h (some (.int y)) := fun a b => ⟨hh, fr_rf _ _, .inl ⟨_, rfl, a, b⟩⟩
  refine E_il rfl L1 ?_
  refine E_call rfl (Sp_le (by omega) (sp_isSlot8 (d := 0))) (chkS rfl (by show 0 ≤ 8; decide)) (fun h1 r1 => ?_)
  rintro ⟨e1, f1⟩
  rw [e1]
  rcases f1 with ⟨x0, x3, f1⟩ | ⟨xn, f1⟩
  · rw [f1]
    refine E_ifF rfl (by decide) ?_
    refine E_il rfl L2 ?_
    refine E_ifT rfl (by decide) ?_
    obtain ⟨s, hs, rfl⟩ : ∃ s, s < 4 ∧ x = nJ s := ⟨x.toInt.toNat, by omega, nJ_of x0⟩
    obtain ⟨S1, S2, S3, S4, S5, S6⟩ := isS_at s hs
    refine E_al rfl L0 ?_
    refine E_ogr rfl hh rfl (q := 53) rfl ?_
    refine E_il rfl L1 ?_
    refine E_aal rfl hh rfl (slot_at s hs) (by decide) ?_
    refine E_asr rfl (fun lv1 M3 kp => ?_)
    have M0 := kp 0 _ (by decide) rfl L0
    refine E_al rfl M3 ?_
    refine E_ogf rfl hh S1 S4 rfl ?_
    by_cases b1 : gi h (54 + 2 * s) 1 = 0
    · refine E_ifF rfl (decide_eq_false (fun q => q b1)) ?_
      refine E_c rfl ?_
      exact E_rti rfl (bad (by decide) (by decide))
    refine E_ifT rfl (decide_eq_true b1) ?_
    have hn : gn h (54 + 2 * s) 3 ≤ 60 := gn_hi hh S6 (by decide)
    have ne : gi h (54 + 2 * s) 3 = nJ (gn h (54 + 2 * s) 3) := gi_gn hh S6 (by decide)
    refine E_al rfl M3 ?_
    refine E_ogf rfl hh S1 S6 ne ?_
    refine E_al rfl M0 ?_
    refine E_ogr rfl hh rfl (q := 15) rfl ?_
    refine E_ogf rfl hh rfl (q := (0, 8)) rfl pe ?_
    refine E_ci 1 rfl (by decide) ?_
    refine E_bin rfl rfl ?_
    have ti : (nJ (gn h 15 0) - nJ 1).toInt = (gn h 15 0 : Int) - 1 := by
      rw [Int32.toInt_sub, nJ_toInt (by omega), nJ_toInt (by omega)]
      exact Int.bmod_eq_of_le (by omega) (by omega)
    have tn := nJ_toInt (n := gn h (54 + 2 * s) 3) (by omega)
    by_cases b2 : nJ (gn h (54 + 2 * s) 3) = nJ (gn h 15 0) - nJ 1
    · refine E_icT rfl (decide_eq_true b2) ?_
      have en : gn h (54 + 2 * s) 3 + 1 = gn h 15 0 := by
        have := congrArg Int32.toInt b2
        omega
      have loop : ∀ (j : Nat) {k : Nat} (lv : List (Nat × Value)), k + j = gn h (54 + 2 * s) 3 → (∀ m, m < k → 0 ≤ (gl h (55 + 2 * s) m).toInt ∧ (gl h (55 + 2 * s) m).toInt ≤ 8) → pm_get lv 0 = some (.ref 0) → pm_get lv 3 = some (.ref (54 + 2 * s)) → pm_get lv 4 = some (.int (nJ k)) → Ends (pm_at tX8_readCode) (pm_Rt pm_P 3) (53, lv, [], h, 0, 0) (RcQ h (nJ s)) := by
        intro j
        induction j with
        | zero =>
          intro k lv hj V L0 L3 L4
          refine E_il rfl L4 ?_
          refine E_al rfl L3 ?_
          refine E_ogf rfl hh S1 S6 ne ?_
          refine E_icT rfl (decide_eq_true ((nJ_le (by omega) (by omega)).mpr (by omega))) ?_
          refine E_al rfl L0 ?_
          refine E_ogr rfl hh rfl (q := 64) rfl ?_
          refine E_al rfl L3 ?_
          refine E_ogr rfl hh S1 S2 ?_
          refine E_al rfl L0 ?_
          refine E_ogr rfl hh rfl (q := 15) rfl ?_
          refine E_ogf rfl hh rfl (q := (0, 8)) rfl pe ?_
          refine E_call rfl (sp_decode7 S3 (cn_at s hs) hh (show 1 ≤ gn h 15 0 by omega) p8 (fun m hm => V m (by omega))) (chkO (a := 64) hh rfl rfl rfl rfl (by show 0 ≤ 8; decide)) (fun h2 r2 => ?_)
          rintro ⟨e2, hh2, f2, g2⟩
          rw [e2]
          refine E_c rfl ?_
          have q0 : gi h2 15 0 = nJ (gn h 15 0) := by rw [fr_gi f2 (rg_no rfl _)]; exact pe
          have t0 := nJ_toInt (n := gn h 15 0) (by omega)
          have t5 := nJ_toInt (n := gn h 15 0 + 1) (by omega)
          exact E_rti rfl ⟨hh2, f2, .inr ⟨x0, x3, rfl, by rw [q0]; omega, by rw [q0]; omega, by rw [g2]; omega, by rw [g2]; omega⟩⟩
        | succ j ih =>
          intro k lv hj V L0 L3 L4
          refine E_il rfl L4 ?_
          refine E_al rfl L3 ?_
          refine E_ogf rfl hh S1 S6 ne ?_
          refine E_icF rfl (decide_eq_false (fun q => absurd ((nJ_le (by omega) (by omega)).mp q) (by omega))) ?_
          refine E_al rfl L3 ?_
          refine E_ogr rfl hh S1 S2 ?_
          refine E_il rfl L4 ?_
          refine E_lal rfl hh S3 (by omega) (by decide) ?_
          refine E_c rfl ?_
          refine E_lcmp rfl ?_
          by_cases c1 : lg_cmp (gl h (55 + 2 * s) k) 0 < 0
          · refine E_ifT rfl (decide_eq_true c1) ?_
            refine E_c rfl ?_
            exact E_rti rfl (bad (by decide) (by decide))
          refine E_ifF rfl (decide_eq_false c1) ?_
          refine E_al rfl L3 ?_
          refine E_ogr rfl hh S1 S2 ?_
          refine E_il rfl L4 ?_
          refine E_lal rfl hh S3 (by omega) (by decide) ?_
          refine E_al rfl L0 ?_
          refine E_ogr rfl hh rfl (q := 15) rfl ?_
          refine E_ogf rfl hh rfl (q := (0, 8)) rfl pe ?_
          refine E_i2l rfl ?_
          refine E_lcmp rfl ?_
          by_cases c2 : lg_cmp (gl h (55 + 2 * s) k) (nJ (gn h 15 0)).toInt64 ≤ 0
          · refine E_ifT rfl (decide_eq_true c2) ?_
            refine E_inc rfl L4 (nJ_inc _) (fun lv2 K4 kp2 => ?_)
            refine E_goto rfl ?_
            refine ih lv2 (by omega) (fun m hm => ?_) (kp2 0 _ (by decide) rfl L0) (kp2 3 _ (by decide) rfl L3) K4
            by_cases e : m = k
            · rw [e]
              have q1 : ¬ gl h (55 + 2 * s) k < 0 := fun z => c1 ((lg_cmp_lt _ _).mpr z)
              rw [Int64.lt_iff_toInt_lt] at q1
              have z0 : (0 : Int64).toInt = 0 := rfl
              have q2 := (lg_cmp_le _ _).mp c2
              rw [Int64.le_iff_toInt_le, i2l_nJ (by omega)] at q2
              omega
            · exact V m (by omega)
          · refine E_ifF rfl (decide_eq_false c2) ?_
            refine E_c rfl ?_
            exact E_rti rfl (bad (by decide) (by decide))
      refine E_ci 0 rfl (by decide) ?_
      refine E_is rfl (fun lv2 K4 kp2 => ?_)
      exact loop (gn h (54 + 2 * s) 3) (k := 0) lv2 (by omega) (fun m hm => absurd hm (Nat.not_lt_zero m)) (kp2 0 _ (by decide) rfl M0) (kp2 3 _ (by decide) rfl M3) K4
    · refine E_icF rfl (decide_eq_false b2) ?_
      refine E_c rfl ?_
      exact E_rti rfl (bad (by decide) (by decide))
  · rw [f1]
    refine E_ifT rfl (by decide) ?_
    refine E_c rfl ?_
    exact E_rti rfl (bad (by decide) (by decide))
end RDC
set_option maxRecDepth 20000 in
theorem q483 : sum_g w0 (pm_Rt pm_P 4) S483 := by
  intro h as hh ha _ _
  match as, ha with
  | [.ref a, .int x, .int y], ⟨h1, h2, h3, _⟩ =>
    have h1 : a = 0 := h1
    have h3 : (1 : Int) ≤ y.toInt ∧ y.toInt ≤ 1 := h3
    have h4 : y = nJ 1 := Int32.toInt_inj.mp (show y.toInt = 1 by omega)
    subst h1
    subst h4
    obtain ⟨h', r, p1, hh', fr, p2⟩ := sp_readCode7 (x := x) hh
    refine ⟨h', r, p1, hh', fr, ?_⟩
    rcases p2 with ⟨y, rfl, y1, y2⟩ | ⟨x0, x3, rfl, a1, a2, b1, b2⟩
    · exact ⟨_, List.mem_cons_self, ⟨rfl, ⟨ai_lo x, ai_hi x⟩, ⟨by decide, by decide⟩, trivial⟩, fun _ hq => absurd hq List.not_mem_nil, fun _ hq => absurd hq List.not_mem_nil, ⟨y1, y2⟩⟩
    · refine ⟨_, List.mem_cons_of_mem _ List.mem_cons_self, ⟨rfl, ⟨x0, x3⟩, ⟨by decide, by decide⟩, trivial⟩, fun q hq => ?_, fun _ hq => absurd hq List.not_mem_nil, ⟨by decide, by decide⟩⟩
      rcases List.mem_cons.mp hq with hq | hq
      · rw [hq]; exact ⟨_, (ld_gi hh' (a := 15) (k := 0) rfl).1, a1, a2⟩
      · rw [List.mem_singleton.mp hq]; exact ⟨_, (ld_gi hh' (a := 64) (k := 5) rfl).1, b1, b2⟩
noncomputable def S484 : Sum1 := (76, [cR 0, cI (-2147483648) 2147483647, cI (-2147483648) 2147483647], [], [], [(64, 5, 6), (65, 1, 8), (66, 0, 8), (68, 0, 8)], [([cR 0, cI (-2147483648) 2147483647, cI (-2147483648) 2147483647], [], [], some (.inl (cI (-6) 8)))])
theorem q484 : sum_g w0 (pm_Rt pm_P 5) S484 := meth_ok (d := 4) (cuts := []) (spl := []) (K := [0, 1, 2]) (N := 18) (sums := [S315, S317, S483]) aiX8_above (abX8_above w0) (by decide) (List.forall_mem_cons.mpr ⟨sum_up q315 3, List.forall_mem_cons.mpr ⟨sum_up q317 2, List.forall_mem_cons.mpr ⟨sum_up q483 0, fun _ h => absurd h List.not_mem_nil⟩⟩⟩) (by decide +kernel)
noncomputable def S485 : Sum1 := (261, [cL (-2147483648) 2147483647, cL 0 0, cL 3 3], [], [], [], [([cL (-2147483648) 2147483647, cL 0 0, cL 3 3], [], [], some (.inl (cI 0 0))), ([cL 0 3, cL 0 0, cL 3 3], [], [], some (.inl (cI 1 1)))])
theorem q485 : sum_g w0 (pm_Rt pm_P 1) S485 := meth_ok (d := 0) (cuts := []) (spl := []) (K := [0, 2, 4]) (N := 12) (sums := []) aiX9_in (abX9_in w0) (by decide) (fun _ h => absurd h List.not_mem_nil) (by decide +kernel)
noncomputable def S486 : Sum1 := (278, [cI (-2147483648) 2147483647], [], [], [], [([cI 0 3], [], [], some (.inl (cI 1 1))), ([cI (-2147483648) 2147483647], [], [], some (.inl (cI 0 0)))])
theorem q486 : sum_g w0 (pm_Rt pm_P 2) S486 := meth_ok (d := 1) (cuts := []) (spl := []) (K := [0]) (N := 7) (sums := [S485]) aiX9_isSlot (abX9_isSlot w0) (by decide) (List.forall_mem_cons.mpr ⟨sum_up q485 0, fun _ h => absurd h List.not_mem_nil⟩) (by decide +kernel)
noncomputable def S487 : Sum1 := (261, [cL (-9223372036854775808) 9223372036854775807, cL 0 0, cL 1 8], [], [], [], [([cL (-9223372036854775808) 9223372036854775807, cL 0 0, cL 1 8], [], [], some (.inl (cI 0 0))), ([cL 0 8, cL 0 0, cL 1 8], [], [], some (.inl (cI 1 1)))])
noncomputable def S488 : Sum1 := (373, [cR 77, cI (-2147483648) 2147483647, cI 1 1], [], [], [], [([cR 77, cI (-2147483648) 2147483647, cI 1 1], [], [], some (.inl (cI (-6) (-2)))), ([cR 77, cI 0 3, cI 1 1], [((83, 0), 1, 2147483647), ((84, 0), 1, 8)], [], some (.inl (cI 0 0)))])
noncomputable def S489 : Sum1 := (373, [cR 77, cI (-2147483648) 2147483647, cI 0 0], [], [], [], [([cR 77, cI (-2147483648) 2147483647, cI 0 0], [], [], some (.inl (cI (-2) (-2))))])
noncomputable def S490 : Sum1 := (75, [cR 64, cI 1 8], [], [], [], [([cR 64, cI 1 8], [], [], some (.inl (cI (-1) 9)))])
theorem q490 : sum_g w0 (pm_Rt pm_P 1) S490 := meth_ok (d := 0) (cuts := [(2, [([(0, cR 64), (1, cI 1 8), (2, cI 0 9)], [], [], [], [.inl 0, .inr (.inl 2, true), .inl 0])])]) (spl := []) (K := [0, 1]) (N := 18) (sums := []) aiX7_wishByOrder (abX7_wishByOrder w0) (by decide) (fun _ h => absurd h List.not_mem_nil) (by decide +kernel)
noncomputable def S491 : Sum1 := (199, [cR 0, cI (-2147483648) 2147483647, cI (-2147483648) 2147483647], [], [], [(64, 5, 6), (65, 1, 8), (66, 0, 8), (68, 0, 8)], [([cR 0, cI (-2147483648) 2147483647, cI (-2147483648) 2147483647], [], [], some (.inl (cI (-6) 9)))])
theorem q491 : sum_g w0 (pm_Rt pm_P 5) S491 := meth_ok (d := 4) (cuts := []) (spl := []) (K := [0, 1, 2]) (N := 17) (sums := [S490, S315, S317, S483]) aiX8_wish (abX8_wish w0) (by decide) (List.forall_mem_cons.mpr ⟨sum_up q490 3, List.forall_mem_cons.mpr ⟨sum_up q315 3, List.forall_mem_cons.mpr ⟨sum_up q317 2, List.forall_mem_cons.mpr ⟨sum_up q483 0, fun _ h => absurd h List.not_mem_nil⟩⟩⟩⟩) (by decide +kernel)
noncomputable def S492 : Sum1 := (58, [cR 64, cI (-1) 8], [], [], [(64, 5, 6), (66, 0, 0)], [([cR 64, cI (-1) 8], [((64, 6), 1, 1), ((66, 0), 0, 0)], [], none)])
theorem q492 : sum_g w0 (pm_Rt pm_P 1) S492 := meth_ok (d := 0) (cuts := []) (spl := []) (K := [0, 1]) (N := 15) (sums := []) aiX7_begin (abX7_begin w0) (by decide) (fun _ h => absurd h List.not_mem_nil) (by decide +kernel)
noncomputable def S493 : Sum1 := (74, [cR 64, cI 1 1], [], [], [(64, 6, 6), (65, 1, 8), (66, 0, 8), (67, 1, 8), (69, 0, 8)], [([cR 64, cI 1 1], [], [], none)])
theorem q493 : sum_g w0 (pm_Rt pm_P 2) S493 := meth_ok (d := 1) (cuts := [(4, [([(0, cR 64), (1, cI 1 1), (2, cI 0 511), (3, cI 0 9)], [], [], [], [.inl 1, .inr (.inl 3, true), .inl 0])]), (52, [([(0, cR 64), (1, cI 1 1), (2, cI 0 511), (3, cI 0 8), (4, cI 0 81), (5, cI 0 81)], [], [((64, 5), 0, 9)], [], [.inl 0, .inr (.inl 5, true), .inl 0])])]) (spl := []) (K := [0, 1]) (N := 50) (sums := [S286]) aiX7_walk (abX7_walk w0) (by decide) (List.forall_mem_cons.mpr ⟨sum_up q286 0, fun _ h => absurd h List.not_mem_nil⟩) (by decide +kernel)
noncomputable def S494 : Sum1 := (71, [cR 64], [], [], [(64, 5, 6), (65, 1, 8), (66, 0, 8), (67, 1, 8), (69, 0, 8)], [([cR 64], [], [], none)])
theorem q494 : sum_g w0 (pm_Rt pm_P 3) S494 := meth_ok (d := 2) (cuts := [(12, [([(0, cR 64), (1, cI 1 9)], [], [((64, 6), 1, 1), ((66, 0), 0, 0)], [], [.inl 0, .inr (.inl 1, true), .inl 0])])]) (spl := []) (K := [0]) (N := 12) (sums := [S493, S492]) aiX7_regainGrains (abX7_regainGrains w0) (by decide) (List.forall_mem_cons.mpr ⟨sum_up q493 0, List.forall_mem_cons.mpr ⟨sum_up q492 1, fun _ h => absurd h List.not_mem_nil⟩⟩) (by decide +kernel)
noncomputable def S495 : Sum1 := (166, [cR 0, cI (-2147483648) 2147483647, cI (-2147483648) 2147483647], [], [], [(64, 5, 6), (65, 1, 8), (66, 0, 8), (67, 1, 8), (68, 0, 8), (69, 0, 8)], [([cR 0, cI (-2147483648) 2147483647, cI (-2147483648) 2147483647], [], [], some (.inl (cI (-2147483648) 2147483647)))])
theorem q495 : sum_g w0 (pm_Rt pm_P 5) S495 := meth_ok (d := 4) (cuts := []) (spl := []) (K := [0, 1, 2]) (N := 23) (sums := [S494, S315, S317, S483]) aiX8_regain (abX8_regain w0) (by decide) (List.forall_mem_cons.mpr ⟨sum_up q494 1, List.forall_mem_cons.mpr ⟨sum_up q315 3, List.forall_mem_cons.mpr ⟨sum_up q317 2, List.forall_mem_cons.mpr ⟨sum_up q483 0, fun _ h => absurd h List.not_mem_nil⟩⟩⟩⟩) (by decide +kernel)
noncomputable def S496 : Sum1 := (196, [cR 0, cI (-2147483648) 2147483647], [], [], [(64, 5, 6), (65, 1, 8), (66, 0, 8), (68, 0, 8)], [([cR 0, cI (-2147483648) 2147483647], [], [], some (.inl (cI (-2147483648) 2147483647)))])
theorem q496 : sum_g w0 (pm_Rt pm_P 5) S496 := meth_ok (d := 4) (cuts := []) (spl := []) (K := [0, 1]) (N := 13) (sums := [S158, S300, S317, S483]) aiX8_upset (abX8_upset w0) (by decide) (List.forall_mem_cons.mpr ⟨sum_up q158 3, List.forall_mem_cons.mpr ⟨sum_up q300 3, List.forall_mem_cons.mpr ⟨sum_up q317 2, List.forall_mem_cons.mpr ⟨sum_up q483 0, fun _ h => absurd h List.not_mem_nil⟩⟩⟩⟩) (by decide +kernel)
noncomputable def S497 : Sum1 := (128, [cR 0, cI (-2147483648) 2147483647], [], [], [], [([cR 0, cI (-2147483648) 2147483647], [], [], some (.inl (cI 0 0))), ([cR 0, cI 1 5], [((15, 0), 1, 8)], [], some (.inl (cI 1 1)))])
theorem q497 : sum_g w0 (pm_Rt pm_P 2) S497 := meth_ok (d := 1) (cuts := []) (spl := []) (K := [0, 1]) (N := 13) (sums := [S158]) aiX8_isTallied (abX8_isTallied w0) (by decide) (List.forall_mem_cons.mpr ⟨sum_up q158 0, fun _ h => absurd h List.not_mem_nil⟩) (by decide +kernel)
noncomputable def S498 : Sum1 := (137, [cI 1 5], [], [], [], [([cI 1 5], [], [], some (.inl (cI (-2147483648) 2147483647)))])
theorem q498 : sum_g w0 (pm_Rt pm_P 1) S498 := meth_ok (d := 0) (cuts := [(4, [([(0, cI 1 5), (1, cI (-2147483648) 2147483647), (2, cI 1 5)], [], [], [], [.inl 0, .inr (.inl 2, true), .inl 0])])]) (spl := []) (K := [0]) (N := 12) (sums := []) aiX8_lawfulRows (abX8_lawfulRows w0) (by decide) (fun _ h => absurd h List.not_mem_nil) (by decide +kernel)
noncomputable def S499 : Sum1 := (173, [cR 0, cI (-2147483648) 2147483647], [], [], [], [([cR 0, cI (-2147483648) 2147483647], [], [], some (.inl (cI (-2147483648) 2147483647)))])
theorem q499 : sum_g w0 (pm_Rt pm_P 3) S499 := meth_ok (d := 2) (cuts := []) (spl := []) (K := [0, 1]) (N := 9) (sums := [S498, S497]) aiX8_rows (abX8_rows w0) (by decide) (List.forall_mem_cons.mpr ⟨sum_up q498 1, List.forall_mem_cons.mpr ⟨sum_up q497 0, fun _ h => absurd h List.not_mem_nil⟩⟩) (by decide +kernel)
noncomputable def S500 : Sum1 := (261, [cL (-2147483648) 2147483647, cL 1 1, cL 5 5], [], [], [], [([cL (-2147483648) 2147483647, cL 1 1, cL 5 5], [], [], some (.inl (cI 0 0))), ([cL 1 5, cL 1 1, cL 5 5], [], [], some (.inl (cI 1 1)))])
theorem q500 : sum_g w0 (pm_Rt pm_P 1) S500 := meth_ok (d := 0) (cuts := []) (spl := []) (K := [0, 2, 4]) (N := 12) (sums := []) aiX9_in (abX9_in w0) (by decide) (fun _ h => absurd h List.not_mem_nil) (by decide +kernel)
noncomputable def S501 : Sum1 := (279, [cR 77, cI (-2147483648) 2147483647], [], [], [], [([cR 77, cI (-2147483648) 2147483647], [], [], some (.inl (cI 0 0))), ([cR 77, cI 1 5], [((83, 0), 1, 2147483647)], [], some (.inl (cI 1 1)))])
theorem q501 : sum_g w0 (pm_Rt pm_P 2) S501 := meth_ok (d := 1) (cuts := []) (spl := []) (K := [0, 1]) (N := 13) (sums := [S160, S500]) aiX9_isSmall (abX9_isSmall w0) (by decide) (List.forall_mem_cons.mpr ⟨sum_up q160 0, List.forall_mem_cons.mpr ⟨sum_up q500 0, fun _ h => absurd h List.not_mem_nil⟩⟩) (by decide +kernel)
noncomputable def S502 : Sum1 := (349, [cR 77, cI 1 5], [], [], [(77, 39, 39), (100, 0, 5)], [([cR 77, cI 1 5], [], [], some (.inl (cI (-2147483648) 2147483647)))])
theorem q502 : sum_g w0 (pm_Rt pm_P 1) S502 := meth_ok (d := 0) (cuts := [(2, [([(0, cR 77), (1, cI 1 5), (2, cI 0 5)], [], [], [], [.inl 1, .inr (.inl 2, true), .inl 0])]), (24, [([(0, cR 77), (1, cI 1 5), (2, cI (-2147483648) 2147483647), (3, cI 0 5)], [], [], [], [.inl 0, .inr (.inl 3, true), .inl 1])]), (37, [([(0, cR 77), (1, cI 1 5), (2, cI (-2147483648) 2147483647), (3, cI 0 4), (4, cI 0 5)], [], [], [], [.inl 0, .inr (.inl 3, true), .inl 0, .inr (.inl 4, true), .inl 0])])]) (spl := []) (K := [0, 1]) (N := 34) (sums := []) aiX9_smallSteps (abX9_smallSteps w0) (by decide) (fun _ h => absurd h List.not_mem_nil) (by decide +kernel)
noncomputable def S503 : Sum1 := (340, [cR 77, cI 1 5, cI (-1) (-1), cI (-1) (-1)], [], [], [(77, 39, 39), (99, 0, 4), (100, 0, 5)], [([cR 77, cI 1 5, cI (-1) (-1), cI (-1) (-1)], [], [], some (.inl (cI (-2147483648) 2147483647)))])
theorem q503 : sum_g w0 (pm_Rt pm_P 2) S503 := meth_ok (d := 1) (cuts := [(6, [([(0, cR 77), (1, cI 1 5), (2, cI (-1) (-1)), (3, cI (-1) (-1)), (4, cI (-2147483648) 2147483647), (5, cI 0 5)], [], [], [], [.inl 1, .inr (.inl 5, true), .inl 0])]), (30, [([(0, cR 77), (1, cI 1 5), (2, cI (-1) (-1)), (3, cI (-1) (-1)), (4, cI (-2147483648) 2147483647), (5, cI (-2147483648) 2147483647), (6, cI 0 2147483647)], [], [], [], [.inl 0, .inr (.inl 6, true), .inl 1])]), (44, [([(0, cR 77), (1, cI 1 5), (2, cI (-1) (-1)), (3, cI (-1) (-1)), (4, cI 1 2147483647), (5, cI (-2147483648) 2147483647), (6, cI 0 2147483646), (7, cI 0 2147483646), (8, cI 0 5)], [], [], [], [.inl 0, .inr (.inl 6, true), .inl 0, .inr (.inl 8, true), .inl 0])])]) (spl := []) (K := [0, 1, 2, 3]) (N := 24) (sums := [S502]) aiX9_rowsBy (abX9_rowsBy w0) (by decide) (List.forall_mem_cons.mpr ⟨sum_up q502 0, fun _ h => absurd h List.not_mem_nil⟩) (by decide +kernel)
noncomputable def S504 : Sum1 := (339, [cR 77, cI (-2147483648) 2147483647], [], [], [(77, 0, 0), (77, 39, 39), (99, 0, 4), (100, 0, 5)], [([cR 77, cI (-2147483648) 2147483647], [], [], some (.inl (cI (-2147483648) 2147483647)))])
theorem q504 : sum_g w0 (pm_Rt pm_P 3) S504 := meth_ok (d := 2) (cuts := []) (spl := []) (K := [0, 1]) (N := 15) (sums := [S503, S501]) aiX9_rows (abX9_rows w0) (by decide) (List.forall_mem_cons.mpr ⟨sum_up q503 0, List.forall_mem_cons.mpr ⟨sum_up q501 0, fun _ h => absurd h List.not_mem_nil⟩⟩) (by decide +kernel)
noncomputable def S505 : Sum1 := (189, [cR 0, cI (-2147483648) 2147483647, cI (-2147483648) 2147483647], [], [], [], [([cR 0, cI (-2147483648) 2147483647, cI (-2147483648) 2147483647], [], [], some (.inl (cI (-2) 270))), ([cR 0, cI 1 5, cI 11 20], [((15, 0), 1, 8)], [], some (.inl (cI 0 0)))])
theorem q505 : sum_g w0 (pm_Rt pm_P 3) S505 := meth_ok (d := 2) (cuts := []) (spl := []) (K := [0, 1, 2]) (N := 24) (sums := [S497]) aiX8_tally (abX8_tally w0) (by decide) (List.forall_mem_cons.mpr ⟨sum_up q497 0, fun _ h => absurd h List.not_mem_nil⟩) (by decide +kernel)
noncomputable def S506 : Sum1 := (150, [cR 0, cI (-2147483648) 2147483647, cI (-2147483648) 2147483647], [], [], [], [([cR 0, cI 1 5, cI 11 20], [((15, 0), 1, 8)], [], some (.inl (cI 0 0))), ([cR 0, cI (-2147483648) 2147483647, cI (-2147483648) 2147483647], [], [], some (.inl (cI (-2) 270)))])
theorem q506 : sum_g w0 (pm_Rt pm_P 4) S506 := meth_ok (d := 3) (cuts := []) (spl := []) (K := [0, 1, 2]) (N := 6) (sums := [S505]) aiX8_moved (abX8_moved w0) (by decide) (List.forall_mem_cons.mpr ⟨sum_up q505 0, fun _ h => absurd h List.not_mem_nil⟩) (by decide +kernel)
noncomputable def S507 : Sum1 := (261, [cL (-2147483648) 2147483647, cL 0 0, cL 20 20], [], [], [], [([cL (-2147483648) 2147483647, cL 0 0, cL 20 20], [], [], some (.inl (cI 0 0))), ([cL 0 20, cL 0 0, cL 20 20], [], [], some (.inl (cI 1 1)))])
theorem q507 : sum_g w0 (pm_Rt pm_P 1) S507 := meth_ok (d := 0) (cuts := []) (spl := []) (K := [0, 2, 4]) (N := 12) (sums := []) aiX9_in (abX9_in w0) (by decide) (fun _ h => absurd h List.not_mem_nil) (by decide +kernel)
noncomputable def S508 : Sum1 := (340, [cR 77, cI 1 5, cI 0 20, cI (-1) (-1)], [], [], [(77, 39, 39), (99, 0, 4), (100, 0, 5)], [([cR 77, cI 1 5, cI 0 20, cI (-1) (-1)], [], [], some (.inl (cI (-2147483648) 2147483647)))])
theorem q508 : sum_g w0 (pm_Rt pm_P 2) S508 := meth_ok (d := 1) (cuts := [(6, [([(0, cR 77), (1, cI 1 5), (2, cI 0 20), (3, cI (-1) (-1)), (4, cI (-2147483648) 2147483647), (5, cI 0 5)], [], [], [], [.inl 1, .inr (.inl 5, true), .inl 0])]), (30, [([(0, cR 77), (1, cI 1 5), (2, cI 0 20), (3, cI (-1) (-1)), (4, cI (-2147483648) 2147483647), (5, cI (-2147483648) 2147483647), (6, cI 0 2147483647)], [], [], [], [.inl 0, .inr (.inl 6, true), .inl 1])]), (44, [([(0, cR 77), (1, cI 1 5), (2, cI 0 20), (3, cI (-1) (-1)), (4, cI 1 2147483647), (5, cI (-2147483648) 2147483647), (6, cI 0 2147483646), (7, cI 0 2147483646), (8, cI 0 5)], [], [], [], [.inl 0, .inr (.inl 6, true), .inl 0, .inr (.inl 8, true), .inl 0])])]) (spl := []) (K := [0, 1, 2, 3]) (N := 27) (sums := [S502]) aiX9_rowsBy (abX9_rowsBy w0) (by decide) (List.forall_mem_cons.mpr ⟨sum_up q502 0, fun _ h => absurd h List.not_mem_nil⟩) (by decide +kernel)
noncomputable def S509 : Sum1 := (314, [cR 77, cI (-2147483648) 2147483647, cI (-2147483648) 2147483647], [], [], [(77, 0, 0), (77, 39, 39), (99, 0, 4), (100, 0, 5)], [([cR 77, cI (-2147483648) 2147483647, cI (-2147483648) 2147483647], [], [], some (.inl (cI (-2147483648) 2147483647)))])
theorem q509 : sum_g w0 (pm_Rt pm_P 3) S509 := meth_ok (d := 2) (cuts := []) (spl := []) (K := [0, 1, 2]) (N := 21) (sums := [S508, S501, S507]) aiX9_moved (abX9_moved w0) (by decide) (List.forall_mem_cons.mpr ⟨sum_up q508 0, List.forall_mem_cons.mpr ⟨sum_up q501 0, List.forall_mem_cons.mpr ⟨sum_up q507 1, fun _ h => absurd h List.not_mem_nil⟩⟩⟩) (by decide +kernel)
noncomputable def S510 : Sum1 := (192, [cR 0, cI (-2147483648) 2147483647, cI (-2147483648) 2147483647], [], [], [], [([cR 0, cI 1 5, cI 11 20], [((15, 0), 1, 8)], [], some (.inl (cI 0 0))), ([cR 0, cI (-2147483648) 2147483647, cI (-2147483648) 2147483647], [], [], some (.inl (cI (-2) 270)))])
theorem q510 : sum_g w0 (pm_Rt pm_P 4) S510 := meth_ok (d := 3) (cuts := []) (spl := []) (K := [0, 1, 2]) (N := 6) (sums := [S505]) aiX8_trees (abX8_trees w0) (by decide) (List.forall_mem_cons.mpr ⟨sum_up q505 0, fun _ h => absurd h List.not_mem_nil⟩) (by decide +kernel)
noncomputable def S511 : Sum1 := (137, [cI 0 4], [], [], [], [([cI 0 4], [], [], some (.inl (cI (-2147483648) 2147483647)))])
theorem q511 : sum_g w0 (pm_Rt pm_P 1) S511 := meth_ok (d := 0) (cuts := [(4, [([(0, cI 0 4), (1, cI (-2147483648) 2147483647), (2, cI 1 4)], [], [], [], [.inl 0, .inr (.inl 2, true), .inl 0])])]) (spl := []) (K := [0]) (N := 12) (sums := []) aiX8_lawfulRows (abX8_lawfulRows w0) (by decide) (fun _ h => absurd h List.not_mem_nil) (by decide +kernel)
noncomputable def S512 : Sum1 := (102, [cR 0, cI (-2147483648) 2147483647, cI (-2147483648) 2147483647], [], [], [], [([cR 0, cI (-2147483648) 2147483647, cI (-2147483648) 2147483647], [], [], some (.inl (cI (-2147483648) 2147483647)))])
theorem q512 : sum_g w0 (pm_Rt pm_P 3) S512 := meth_ok (d := 2) (cuts := []) (spl := []) (K := [0, 1, 2]) (N := 43) (sums := [S511, S497]) aiX8_ends (abX8_ends w0) (by decide) (List.forall_mem_cons.mpr ⟨sum_up q511 1, List.forall_mem_cons.mpr ⟨sum_up q497 0, fun _ h => absurd h List.not_mem_nil⟩⟩) (by decide +kernel)
noncomputable def S513 : Sum1 := (261, [cL (-2147483648) 2147483647, cL 1 1, cL 1 5], [], [], [], [([cL (-2147483648) 2147483647, cL 1 1, cL 1 5], [], [], some (.inl (cI 0 0))), ([cL 1 5, cL 1 1, cL 1 5], [], [], some (.inl (cI 1 1)))])
theorem q513 : sum_g w0 (pm_Rt pm_P 1) S513 := meth_ok (d := 0) (cuts := []) (spl := []) (K := [0, 2, 4]) (N := 12) (sums := []) aiX9_in (abX9_in w0) (by decide) (fun _ h => absurd h List.not_mem_nil) (by decide +kernel)
noncomputable def S514 : Sum1 := (340, [cR 77, cI 1 5, cI (-1) (-1), cI 1 5], [], [], [(77, 39, 39), (99, 0, 4), (100, 0, 5)], [([cR 77, cI 1 5, cI (-1) (-1), cI 1 5], [], [], some (.inl (cI (-2147483648) 2147483647)))])
theorem q514 : sum_g w0 (pm_Rt pm_P 2) S514 := meth_ok (d := 1) (cuts := [(6, [([(0, cR 77), (1, cI 1 5), (2, cI (-1) (-1)), (3, cI 1 5), (4, cI (-2147483648) 2147483647), (5, cI 0 5)], [], [], [], [.inl 1, .inr (.inl 5, true), .inl 0])]), (30, [([(0, cR 77), (1, cI 1 5), (2, cI (-1) (-1)), (3, cI 1 5), (4, cI (-2147483648) 2147483647), (5, cI (-2147483648) 2147483647), (6, cI 0 2147483647)], [], [], [], [.inl 0, .inr (.inl 6, true), .inl 1])]), (44, [([(0, cR 77), (1, cI 1 5), (2, cI (-1) (-1)), (3, cI 1 5), (4, cI 1 2147483647), (5, cI (-2147483648) 2147483647), (6, cI 0 2147483646), (7, cI 0 2147483646), (8, cI 0 5)], [], [], [], [.inl 0, .inr (.inl 6, true), .inl 0, .inr (.inl 8, true), .inl 0])])]) (spl := []) (K := [0, 1, 2, 3]) (N := 28) (sums := [S502]) aiX9_rowsBy (abX9_rowsBy w0) (by decide) (List.forall_mem_cons.mpr ⟨sum_up q502 0, fun _ h => absurd h List.not_mem_nil⟩) (by decide +kernel)
noncomputable def S515 : Sum1 := (242, [cR 77, cI (-2147483648) 2147483647, cI (-2147483648) 2147483647], [], [], [(77, 0, 0), (77, 39, 39), (99, 0, 4), (100, 0, 5)], [([cR 77, cI (-2147483648) 2147483647, cI (-2147483648) 2147483647], [], [], some (.inl (cI (-2147483648) 2147483647)))])
theorem q515 : sum_g w0 (pm_Rt pm_P 3) S515 := meth_ok (d := 2) (cuts := []) (spl := []) (K := [0, 1, 2]) (N := 22) (sums := [S514, S501, S513]) aiX9_ends (abX9_ends w0) (by decide) (List.forall_mem_cons.mpr ⟨sum_up q514 0, List.forall_mem_cons.mpr ⟨sum_up q501 0, List.forall_mem_cons.mpr ⟨sum_up q513 1, fun _ h => absurd h List.not_mem_nil⟩⟩⟩) (by decide +kernel)
noncomputable def S516 : Sum1 := (18, [cR 70, cI 1 9], [], [], [(70, 1, 1), (71, 1, 9)], [([cR 70, cI 1 9], [((70, 1), 1, 9)], [], none)])
theorem q516 : sum_g w0 (pm_Rt pm_P 2) S516 := meth_ok (d := 1) (cuts := [(7, [([(0, cR 70), (1, cI 1 9), (2, cI 1 10)], [], [((70, 1), 1, 9)], [], [.inl 0, .inr (.inl 2, true), .inl 0])])]) (spl := []) (K := [0, 1]) (N := 13) (sums := [S58]) aiX0_start (abX0_start w0) (by decide) (List.forall_mem_cons.mpr ⟨sum_up q58 0, fun _ h => absurd h List.not_mem_nil⟩) (by decide +kernel)
noncomputable def S517 : Sum1 := (15, [cR 70, cI 0 9, cI 0 9], [], [], [(71, 1, 9)], [([cR 70, cI 0 9, cI 0 9], [], [], none)])
theorem q517 : sum_g w0 (pm_Rt pm_P 2) S517 := meth_ok (d := 1) (cuts := [(17, [([(0, cR 70), (1, cI 0 9), (2, cI 0 9), (3, cI 0 511), (4, cI 1 10)], [], [], [], [.inl 0, .inr (.inl 4, true), .inl 0])])]) (spl := []) (K := [0, 1, 2]) (N := 17) (sums := [S58]) aiX0_join (abX0_join w0) (by decide) (List.forall_mem_cons.mpr ⟨sum_up q58 0, fun _ h => absurd h List.not_mem_nil⟩) (by decide +kernel)
noncomputable def S518 : Sum1 := (131, [cR 0, cI 0 7], [], [], [(70, 1, 1), (71, 1, 9)], [([cR 0, cI 0 7], [((70, 1), 1, 9)], [], none)])
theorem q518 : sum_g w0 (pm_Rt pm_P 3) S518 := meth_ok (d := 2) (cuts := [(18, [([(0, cR 0), (1, cI 0 7), (2, cI 0 7)], [], [((15, 0), 0, 8), ((70, 1), 1, 9)], [], [.inl 0, .inr (.inl 2, true), .inl 0])])]) (spl := []) (K := [0, 1]) (N := 19) (sums := [S516, S517]) aiX8_joinFirst (abX8_joinFirst w0) (by decide) (List.forall_mem_cons.mpr ⟨sum_up q516 0, List.forall_mem_cons.mpr ⟨sum_up q517 0, fun _ h => absurd h List.not_mem_nil⟩⟩) (by decide +kernel)
noncomputable def S519 : Sum1 := (17, [cR 70, cI 0 9, cI 0 9], [], [], [], [([cR 70, cI 0 9, cI 0 9], [], [], some (.inl (cI 0 9)))])
theorem q519 : sum_g w0 (pm_Rt pm_P 1) S519 := meth_ok (d := 0) (cuts := [(8, [([(0, cR 70), (1, cI 0 9), (2, cI 0 9), (3, cI 0 9), (4, cI 0 511), (5, cI 1 10)], [], [], [], [.inl 0, .inr (.inl 5, true), .inl 0])])]) (spl := []) (K := [0, 1, 2]) (N := 33) (sums := []) aiX0_labelOf (abX0_labelOf w0) (by decide) (fun _ h => absurd h List.not_mem_nil) (by decide +kernel)
noncomputable def S520 : Sum1 := (133, [cR 0, cI (-2147483648) 2147483647], [], [], [(70, 1, 1), (71, 1, 9)], [([cR 0, cI (-2147483648) 2147483647], [], [], some (.inl (cI (-2) 9)))])
theorem q520 : sum_g w0 (pm_Rt pm_P 4) S520 := meth_ok (d := 3) (cuts := []) (spl := []) (K := [0, 1]) (N := 25) (sums := [S518, S519]) aiX8_label (abX8_label w0) (by decide) (List.forall_mem_cons.mpr ⟨sum_up q518 0, List.forall_mem_cons.mpr ⟨sum_up q519 2, fun _ h => absurd h List.not_mem_nil⟩⟩) (by decide +kernel)
noncomputable def S521 : Sum1 := (271, [cR 77, cI (-2147483648) 2147483647], [], [], [], [([cR 77, cI 0 7], [], [], some (.inl (cI 1 1))), ([cR 77, cI (-2147483648) 2147483647], [], [], some (.inl (cI 0 0)))])
theorem q521 : sum_g w0 (pm_Rt pm_P 2) S521 := meth_ok (d := 1) (cuts := []) (spl := []) (K := [0, 1]) (N := 13) (sums := [S113]) aiX9_isJoin (abX9_isJoin w0) (by decide) (List.forall_mem_cons.mpr ⟨sum_up q113 0, fun _ h => absurd h List.not_mem_nil⟩) (by decide +kernel)
noncomputable def S522 : Sum1 := (301, [cI 0 9, cI 0 9], [], [], [], [([cI 0 9, cI 0 9], [], [], some (.inl (cI 0 9)))])
theorem q522 : sum_g w0 (pm_Rt pm_P 1) S522 := meth_ok (d := 0) (cuts := []) (spl := []) (K := [0, 1]) (N := 7) (sums := []) aiX9_lessOf (abX9_lessOf w0) (by decide) (fun _ h => absurd h List.not_mem_nil) (by decide +kernel)
noncomputable def S523 : Sum1 := (313, [cI 0 9, cI 0 9], [], [], [], [([cI 0 9, cI 0 9], [], [], some (.inl (cI 0 9)))])
theorem q523 : sum_g w0 (pm_Rt pm_P 1) S523 := meth_ok (d := 0) (cuts := []) (spl := []) (K := [0, 1]) (N := 7) (sums := []) aiX9_moreOf (abX9_moreOf w0) (by decide) (fun _ h => absurd h List.not_mem_nil) (by decide +kernel)
noncomputable def S524 : Sum1 := (283, [cR 77, cI 0 9, cI 0 9], [], [], [(101, 1, 9)], [([cR 77, cI 0 9, cI 0 9], [], [], none)])
theorem q524 : sum_g w0 (pm_Rt pm_P 2) S524 := meth_ok (d := 1) (cuts := [(36, [([(0, cR 77), (1, cI 0 9), (2, cI 0 9), (3, cI 0 9), (4, cI 0 9), (5, cI 1 10)], [], [], [], [.inl 0, .inr (.inl 5, true), .inl 0])])]) (spl := []) (K := [0, 1, 2]) (N := 23) (sums := [S522, S523]) aiX9_joins0 (abX9_joins0 w0) (by decide) (List.forall_mem_cons.mpr ⟨sum_up q522 0, List.forall_mem_cons.mpr ⟨sum_up q523 0, fun _ h => absurd h List.not_mem_nil⟩⟩) (by decide +kernel)
noncomputable def S525 : Sum1 := (294, [cR 77, cI 0 0, cI 0 7], [], [], [(101, 0, 9)], [([cR 77, cI 0 0, cI 0 7], [], [], none)])
theorem q525 : sum_g w0 (pm_Rt pm_P 3) S525 := meth_ok (d := 2) (cuts := [(2, [([(0, cR 77), (1, cI 0 0), (2, cI 0 7), (3, cI 0 10)], [], [], [], [.inl 1, .inr (.inl 3, true), .inl 0])]), (23, [([(0, cR 77), (1, cI 0 0), (2, cI 0 7), (3, cI 0 7)], [], [], [], [.inl 0, .inr (.inl 3, true), .inl 0])])]) (spl := []) (K := [0, 1, 2]) (N := 30) (sums := [S524]) aiX9_laysBlocks (abX9_laysBlocks w0) (by decide) (List.forall_mem_cons.mpr ⟨sum_up q524 0, fun _ h => absurd h List.not_mem_nil⟩) (by decide +kernel)
noncomputable def S526 : Sum1 := (288, [cR 77, cI 0 9, cI 0 9], [], [], [], [([cR 77, cI 0 9, cI 0 9], [], [], some (.inl (cI 0 9)))])
theorem q526 : sum_g w0 (pm_Rt pm_P 2) S526 := meth_ok (d := 1) (cuts := [(39, [([(0, cR 77), (1, cI 0 9), (2, cI 0 9), (3, cI 0 9), (4, cI 0 9), (5, cI 0 9), (6, cI 0 9)], [], [], [], [.inl 0, .inr (.inl 6, true), .inl 0])])]) (spl := []) (K := [0, 1, 2]) (N := 25) (sums := [S522, S523]) aiX9_labelOf (abX9_labelOf w0) (by decide) (List.forall_mem_cons.mpr ⟨sum_up q522 0, List.forall_mem_cons.mpr ⟨sum_up q523 0, fun _ h => absurd h List.not_mem_nil⟩⟩) (by decide +kernel)
end
