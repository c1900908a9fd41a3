/-! the arrays of the reference, one by one -/
section
variable {Z : zZ} {S0 S : zS} {ar : Nat → Nat} {n w : Nat} {sg : Nat → Nat} {u : Nat → Nat → Bool} {G : gT}
theorem mq_3 (H : zMV Z S0 ar n w sg u S G) : zQ Z (ar 0) 3 = some (ar 3) := (mV_k H (k := 3) (by omega) (by omega)).1
theorem mkk_3 (H : zMV Z S0 ar n w sg u S G) : zk Z (ar 3) 10 := (mV_k H (k := 3) (by omega) (by omega)).2.1
theorem mq_4 (H : zMV Z S0 ar n w sg u S G) : zQ Z (ar 0) 4 = some (ar 4) := (mV_k H (k := 4) (by omega) (by omega)).1
theorem mkk_4 (H : zMV Z S0 ar n w sg u S G) : zk Z (ar 4) 8 := (mV_k H (k := 4) (by omega) (by omega)).2.1
theorem mq_5 (H : zMV Z S0 ar n w sg u S G) : zQ Z (ar 0) 5 = some (ar 5) := (mV_k H (k := 5) (by omega) (by omega)).1
theorem mkk_5 (H : zMV Z S0 ar n w sg u S G) : zk Z (ar 5) 8 := (mV_k H (k := 5) (by omega) (by omega)).2.1
theorem mq_6 (H : zMV Z S0 ar n w sg u S G) : zQ Z (ar 0) 6 = some (ar 6) := (mV_k H (k := 6) (by omega) (by omega)).1
theorem mkk_6 (H : zMV Z S0 ar n w sg u S G) : zk Z (ar 6) 8 := (mV_k H (k := 6) (by omega) (by omega)).2.1
theorem mq_7 (H : zMV Z S0 ar n w sg u S G) : zQ Z (ar 0) 7 = some (ar 7) := (mV_k H (k := 7) (by omega) (by omega)).1
theorem mkk_7 (H : zMV Z S0 ar n w sg u S G) : zk Z (ar 7) 9 := (mV_k H (k := 7) (by omega) (by omega)).2.1
theorem mq_8 (H : zMV Z S0 ar n w sg u S G) : zQ Z (ar 0) 8 = some (ar 8) := (mV_k H (k := 8) (by omega) (by omega)).1
theorem mkk_8 (H : zMV Z S0 ar n w sg u S G) : zk Z (ar 8) 8 := (mV_k H (k := 8) (by omega) (by omega)).2.1
theorem mq_9 (H : zMV Z S0 ar n w sg u S G) : zQ Z (ar 0) 9 = some (ar 9) := (mV_k H (k := 9) (by omega) (by omega)).1
theorem mkk_9 (H : zMV Z S0 ar n w sg u S G) : zk Z (ar 9) 9 := (mV_k H (k := 9) (by omega) (by omega)).2.1
theorem mq_10 (H : zMV Z S0 ar n w sg u S G) : zQ Z (ar 0) 10 = some (ar 10) := (mV_k H (k := 10) (by omega) (by omega)).1
theorem mkk_10 (H : zMV Z S0 ar n w sg u S G) : zk Z (ar 10) 8 := (mV_k H (k := 10) (by omega) (by omega)).2.1
theorem mq_11 (H : zMV Z S0 ar n w sg u S G) : zQ Z (ar 0) 11 = some (ar 11) := (mV_k H (k := 11) (by omega) (by omega)).1
theorem mkk_11 (H : zMV Z S0 ar n w sg u S G) : zk Z (ar 11) 8 := (mV_k H (k := 11) (by omega) (by omega)).2.1
theorem mq_12 (H : zMV Z S0 ar n w sg u S G) : zQ Z (ar 0) 12 = some (ar 12) := (mV_k H (k := 12) (by omega) (by omega)).1
theorem mkk_12 (H : zMV Z S0 ar n w sg u S G) : zk Z (ar 12) 8 := (mV_k H (k := 12) (by omega) (by omega)).2.1
theorem mq_13 (H : zMV Z S0 ar n w sg u S G) : zQ Z (ar 0) 13 = some (ar 13) := (mV_k H (k := 13) (by omega) (by omega)).1
theorem mkk_13 (H : zMV Z S0 ar n w sg u S G) : zk Z (ar 13) 8 := (mV_k H (k := 13) (by omega) (by omega)).2.1
theorem mq_14 (H : zMV Z S0 ar n w sg u S G) : zQ Z (ar 0) 14 = some (ar 14) := (mV_k H (k := 14) (by omega) (by omega)).1
theorem mkk_14 (H : zMV Z S0 ar n w sg u S G) : zk Z (ar 14) 9 := (mV_k H (k := 14) (by omega) (by omega)).2.1
theorem mq_15 (H : zMV Z S0 ar n w sg u S G) : zQ Z (ar 0) 15 = some (ar 15) := (mV_k H (k := 15) (by omega) (by omega)).1
theorem mkk_15 (H : zMV Z S0 ar n w sg u S G) : zk Z (ar 15) 10 := (mV_k H (k := 15) (by omega) (by omega)).2.1
theorem mq_16 (H : zMV Z S0 ar n w sg u S G) : zQ Z (ar 0) 16 = some (ar 16) := (mV_k H (k := 16) (by omega) (by omega)).1
theorem mkk_16 (H : zMV Z S0 ar n w sg u S G) : zk Z (ar 16) 8 := (mV_k H (k := 16) (by omega) (by omega)).2.1
theorem mq_17 (H : zMV Z S0 ar n w sg u S G) : zQ Z (ar 0) 17 = some (ar 17) := (mV_k H (k := 17) (by omega) (by omega)).1
theorem mkk_17 (H : zMV Z S0 ar n w sg u S G) : zk Z (ar 17) 8 := (mV_k H (k := 17) (by omega) (by omega)).2.1
theorem mq_18 (H : zMV Z S0 ar n w sg u S G) : zQ Z (ar 0) 18 = some (ar 18) := (mV_k H (k := 18) (by omega) (by omega)).1
theorem mkk_18 (H : zMV Z S0 ar n w sg u S G) : zk Z (ar 18) 8 := (mV_k H (k := 18) (by omega) (by omega)).2.1
theorem mq_19 (H : zMV Z S0 ar n w sg u S G) : zQ Z (ar 0) 19 = some (ar 19) := (mV_k H (k := 19) (by omega) (by omega)).1
theorem mkk_19 (H : zMV Z S0 ar n w sg u S G) : zk Z (ar 19) 10 := (mV_k H (k := 19) (by omega) (by omega)).2.1
theorem mq_20 (H : zMV Z S0 ar n w sg u S G) : zQ Z (ar 0) 20 = some (ar 20) := (mV_k H (k := 20) (by omega) (by omega)).1
theorem mkk_20 (H : zMV Z S0 ar n w sg u S G) : zk Z (ar 20) 8 := (mV_k H (k := 20) (by omega) (by omega)).2.1
theorem mq_21 (H : zMV Z S0 ar n w sg u S G) : zQ Z (ar 0) 21 = some (ar 21) := (mV_k H (k := 21) (by omega) (by omega)).1
theorem mkk_21 (H : zMV Z S0 ar n w sg u S G) : zk Z (ar 21) 9 := (mV_k H (k := 21) (by omega) (by omega)).2.1
theorem mq_22 (H : zMV Z S0 ar n w sg u S G) : zQ Z (ar 0) 22 = some (ar 22) := (mV_k H (k := 22) (by omega) (by omega)).1
theorem mkk_22 (H : zMV Z S0 ar n w sg u S G) : zk Z (ar 22) 8 := (mV_k H (k := 22) (by omega) (by omega)).2.1
theorem mq_23 (H : zMV Z S0 ar n w sg u S G) : zQ Z (ar 0) 23 = some (ar 23) := (mV_k H (k := 23) (by omega) (by omega)).1
theorem mkk_23 (H : zMV Z S0 ar n w sg u S G) : zk Z (ar 23) 9 := (mV_k H (k := 23) (by omega) (by omega)).2.1
theorem mq_24 (H : zMV Z S0 ar n w sg u S G) : zQ Z (ar 0) 24 = some (ar 24) := (mV_k H (k := 24) (by omega) (by omega)).1
theorem mkk_24 (H : zMV Z S0 ar n w sg u S G) : zk Z (ar 24) 8 := (mV_k H (k := 24) (by omega) (by omega)).2.1
theorem mq_25 (H : zMV Z S0 ar n w sg u S G) : zQ Z (ar 0) 25 = some (ar 25) := (mV_k H (k := 25) (by omega) (by omega)).1
theorem mkk_25 (H : zMV Z S0 ar n w sg u S G) : zk Z (ar 25) 8 := (mV_k H (k := 25) (by omega) (by omega)).2.1
theorem mq_26 (H : zMV Z S0 ar n w sg u S G) : zQ Z (ar 0) 26 = some (ar 26) := (mV_k H (k := 26) (by omega) (by omega)).1
theorem mkk_26 (H : zMV Z S0 ar n w sg u S G) : zk Z (ar 26) 10 := (mV_k H (k := 26) (by omega) (by omega)).2.1
theorem mq_27 (H : zMV Z S0 ar n w sg u S G) : zQ Z (ar 0) 27 = some (ar 27) := (mV_k H (k := 27) (by omega) (by omega)).1
theorem mkk_27 (H : zMV Z S0 ar n w sg u S G) : zk Z (ar 27) 8 := (mV_k H (k := 27) (by omega) (by omega)).2.1
theorem mq_28 (H : zMV Z S0 ar n w sg u S G) : zQ Z (ar 0) 28 = some (ar 28) := (mV_k H (k := 28) (by omega) (by omega)).1
theorem mkk_28 (H : zMV Z S0 ar n w sg u S G) : zk Z (ar 28) 8 := (mV_k H (k := 28) (by omega) (by omega)).2.1
theorem mq_29 (H : zMV Z S0 ar n w sg u S G) : zQ Z (ar 0) 29 = some (ar 29) := (mV_k H (k := 29) (by omega) (by omega)).1
theorem mkk_29 (H : zMV Z S0 ar n w sg u S G) : zk Z (ar 29) 8 := (mV_k H (k := 29) (by omega) (by omega)).2.1
theorem mq_30 (H : zMV Z S0 ar n w sg u S G) : zQ Z (ar 0) 30 = some (ar 30) := (mV_k H (k := 30) (by omega) (by omega)).1
theorem mkk_30 (H : zMV Z S0 ar n w sg u S G) : zk Z (ar 30) 8 := (mV_k H (k := 30) (by omega) (by omega)).2.1
theorem mq_31 (H : zMV Z S0 ar n w sg u S G) : zQ Z (ar 0) 31 = some (ar 31) := (mV_k H (k := 31) (by omega) (by omega)).1
theorem mkk_31 (H : zMV Z S0 ar n w sg u S G) : zk Z (ar 31) 9 := (mV_k H (k := 31) (by omega) (by omega)).2.1
theorem mq_32 (H : zMV Z S0 ar n w sg u S G) : zQ Z (ar 0) 32 = some (ar 32) := (mV_k H (k := 32) (by omega) (by omega)).1
theorem mkk_32 (H : zMV Z S0 ar n w sg u S G) : zk Z (ar 32) 10 := (mV_k H (k := 32) (by omega) (by omega)).2.1
theorem mq_33 (H : zMV Z S0 ar n w sg u S G) : zQ Z (ar 0) 33 = some (ar 33) := (mV_k H (k := 33) (by omega) (by omega)).1
theorem mkk_33 (H : zMV Z S0 ar n w sg u S G) : zk Z (ar 33) 8 := (mV_k H (k := 33) (by omega) (by omega)).2.1
theorem mq_34 (H : zMV Z S0 ar n w sg u S G) : zQ Z (ar 0) 34 = some (ar 34) := (mV_k H (k := 34) (by omega) (by omega)).1
theorem mkk_34 (H : zMV Z S0 ar n w sg u S G) : zk Z (ar 34) 10 := (mV_k H (k := 34) (by omega) (by omega)).2.1
theorem mq_35 (H : zMV Z S0 ar n w sg u S G) : zQ Z (ar 0) 35 = some (ar 35) := (mV_k H (k := 35) (by omega) (by omega)).1
theorem mkk_35 (H : zMV Z S0 ar n w sg u S G) : zk Z (ar 35) 8 := (mV_k H (k := 35) (by omega) (by omega)).2.1
end
