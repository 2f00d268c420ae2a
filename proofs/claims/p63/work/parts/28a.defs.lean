/-! Flat programs. -/
set_option maxRecDepth 4000 in
def g_8 (a2 : Int32) (σ : f_M) : Option (f_M) :=
  some (f_up (f_up (f_up (f_up (f_up σ 3 0 1) 3 1 (f_min a2 (600 : Int32))) 3 4 (0 : Int32)) 3 6 (0 : Int32)) 3 7 (-1 : Int32))
set_option maxRecDepth 4000 in
def g_9  (σ : f_M) : Option (f_M) :=
  (g_8 (σ 0 1) σ).bind fun t1 =>
  some (f_up t1 0 1 (0 : Int32))
set_option maxRecDepth 4000 in
def g_10 (a1 : Int32) (a2 : Int32) (σ : f_M) : Option (Int32) :=
  (f_lp (fun (s1 : Int32) =>
   if (σ 3 1) ≤ s1 then (
    some (.inr s1)
   ) else (
    if σ 3 0 = 1 then (
    (f_rd σ 1 600 s1).bind fun v3 =>
    if v3 < a1 then (
     some (.inr s1)
    ) else (
     if σ 3 0 = 1 then (
     (f_rd σ 1 600 s1).bind fun v5 =>
     if a2 < v5 then (
      some (.inr s1)
     ) else (
      some (.inl (s1 + (1 : Int32)))
     )
     ) else none
    )
    ) else none
   )
  ) f_F (σ 3 3)).bind fun (x1 : Int32) =>
  some x1
set_option maxRecDepth 4000 in
def g_11  (σ : f_M) : Option (Int32) :=
  some ((σ 3 4) - (σ 3 3))
set_option maxRecDepth 4000 in
def g_12  (σ : f_M) : Option (f_M) :=
  (f_lp (fun (s1 : f_M) =>
   if (s1 3 1) ≤ (s1 3 3) then (
    some (.inr s1)
   ) else (
    if s1 3 0 = 1 then (
    (f_rd s1 1 600 (s1 3 3)).bind fun v3 =>
    if v3 = (32 : Int32) then (
     some (.inl (f_up s1 3 3 ((s1 3 3) + (1 : Int32))))
    ) else (
     if s1 3 0 = 1 then (
     (f_rd s1 1 600 (s1 3 3)).bind fun v5 =>
     if ¬ v5 = (10 : Int32) then (
      some (.inr s1)
     ) else (
      some (.inl (f_up s1 3 3 ((s1 3 3) + (1 : Int32))))
     )
     ) else none
    )
    ) else none
   )
  ) f_F (f_up σ 3 3 (σ 3 4))).bind fun (x1 : f_M) =>
  (
   if ((f_up x1 3 4 (x1 3 3)) 3 3) < ((f_up x1 3 4 (x1 3 3)) 3 1) then (
    if (f_up x1 3 4 (x1 3 3)) 3 0 = 1 then (
    (f_rd (f_up x1 3 4 (x1 3 3)) 1 600 ((f_up x1 3 4 (x1 3 3)) 3 3)).bind fun v11 =>
    if v11 < (97 : Int32) then (
     if (f_up x1 3 4 (x1 3 3)) 3 0 = 1 then (
     (f_rd (f_up x1 3 4 (x1 3 3)) 1 600 ((f_up x1 3 4 (x1 3 3)) 3 3)).bind fun v13 =>
     if v13 < (48 : Int32) then (
      if (f_up (f_up x1 3 4 (x1 3 3)) 3 4 (((f_up x1 3 4 (x1 3 3)) 3 3) + (1 : Int32))) 3 0 = 1 then (
      (f_rd (f_up (f_up x1 3 4 (x1 3 3)) 3 4 (((f_up x1 3 4 (x1 3 3)) 3 3) + (1 : Int32))) 1 600 ((f_up (f_up x1 3 4 (x1 3 3)) 3 4 (((f_up x1 3 4 (x1 3 3)) 3 3) + (1 : Int32))) 3 3)).bind fun v15 =>
      (
       if ¬ v15 = (59 : Int32) then (
        some (4 : Int32)
       ) else (
        some (3 : Int32)
       )
      ).bind fun (t16 : Int32) =>
      some (f_up (f_up (f_up x1 3 4 (x1 3 3)) 3 4 (((f_up x1 3 4 (x1 3 3)) 3 3) + (1 : Int32))) 3 2 t16)
      ) else none
     ) else (
      if (f_up x1 3 4 (x1 3 3)) 3 0 = 1 then (
      (f_rd (f_up x1 3 4 (x1 3 3)) 1 600 ((f_up x1 3 4 (x1 3 3)) 3 3)).bind fun v19 =>
      if (57 : Int32) < v19 then (
       if (f_up (f_up x1 3 4 (x1 3 3)) 3 4 (((f_up x1 3 4 (x1 3 3)) 3 3) + (1 : Int32))) 3 0 = 1 then (
       (f_rd (f_up (f_up x1 3 4 (x1 3 3)) 3 4 (((f_up x1 3 4 (x1 3 3)) 3 3) + (1 : Int32))) 1 600 ((f_up (f_up x1 3 4 (x1 3 3)) 3 4 (((f_up x1 3 4 (x1 3 3)) 3 3) + (1 : Int32))) 3 3)).bind fun v21 =>
       (
        if ¬ v21 = (59 : Int32) then (
         some (4 : Int32)
        ) else (
         some (3 : Int32)
        )
       ).bind fun (t22 : Int32) =>
       some (f_up (f_up (f_up x1 3 4 (x1 3 3)) 3 4 (((f_up x1 3 4 (x1 3 3)) 3 3) + (1 : Int32))) 3 2 t22)
       ) else none
      ) else (
       (g_10 (48 : Int32) (57 : Int32) (f_up x1 3 4 (x1 3 3))).bind fun t24 =>
       (g_11  (f_up (f_up x1 3 4 (x1 3 3)) 3 4 t24)).bind fun t25 =>
       (
        if (4 : Int32) < t25 then (
         some (4 : Int32)
        ) else (
         some (2 : Int32)
        )
       ).bind fun (t26 : Int32) =>
       some (f_up (f_up (f_up x1 3 4 (x1 3 3)) 3 4 t24) 3 2 t26)
      )
      ) else none
     )
     ) else none
    ) else (
     if (f_up x1 3 4 (x1 3 3)) 3 0 = 1 then (
     (f_rd (f_up x1 3 4 (x1 3 3)) 1 600 ((f_up x1 3 4 (x1 3 3)) 3 3)).bind fun v31 =>
     if (122 : Int32) < v31 then (
      if (f_up x1 3 4 (x1 3 3)) 3 0 = 1 then (
      (f_rd (f_up x1 3 4 (x1 3 3)) 1 600 ((f_up x1 3 4 (x1 3 3)) 3 3)).bind fun v33 =>
      if v33 < (48 : Int32) then (
       if (f_up (f_up x1 3 4 (x1 3 3)) 3 4 (((f_up x1 3 4 (x1 3 3)) 3 3) + (1 : Int32))) 3 0 = 1 then (
       (f_rd (f_up (f_up x1 3 4 (x1 3 3)) 3 4 (((f_up x1 3 4 (x1 3 3)) 3 3) + (1 : Int32))) 1 600 ((f_up (f_up x1 3 4 (x1 3 3)) 3 4 (((f_up x1 3 4 (x1 3 3)) 3 3) + (1 : Int32))) 3 3)).bind fun v35 =>
       (
        if ¬ v35 = (59 : Int32) then (
         some (4 : Int32)
        ) else (
         some (3 : Int32)
        )
       ).bind fun (t36 : Int32) =>
       some (f_up (f_up (f_up x1 3 4 (x1 3 3)) 3 4 (((f_up x1 3 4 (x1 3 3)) 3 3) + (1 : Int32))) 3 2 t36)
       ) else none
      ) else (
       if (f_up x1 3 4 (x1 3 3)) 3 0 = 1 then (
       (f_rd (f_up x1 3 4 (x1 3 3)) 1 600 ((f_up x1 3 4 (x1 3 3)) 3 3)).bind fun v39 =>
       if (57 : Int32) < v39 then (
        if (f_up (f_up x1 3 4 (x1 3 3)) 3 4 (((f_up x1 3 4 (x1 3 3)) 3 3) + (1 : Int32))) 3 0 = 1 then (
        (f_rd (f_up (f_up x1 3 4 (x1 3 3)) 3 4 (((f_up x1 3 4 (x1 3 3)) 3 3) + (1 : Int32))) 1 600 ((f_up (f_up x1 3 4 (x1 3 3)) 3 4 (((f_up x1 3 4 (x1 3 3)) 3 3) + (1 : Int32))) 3 3)).bind fun v41 =>
        (
         if ¬ v41 = (59 : Int32) then (
          some (4 : Int32)
         ) else (
          some (3 : Int32)
         )
        ).bind fun (t42 : Int32) =>
        some (f_up (f_up (f_up x1 3 4 (x1 3 3)) 3 4 (((f_up x1 3 4 (x1 3 3)) 3 3) + (1 : Int32))) 3 2 t42)
        ) else none
       ) else (
        (g_10 (48 : Int32) (57 : Int32) (f_up x1 3 4 (x1 3 3))).bind fun t44 =>
        (g_11  (f_up (f_up x1 3 4 (x1 3 3)) 3 4 t44)).bind fun t45 =>
        (
         if (4 : Int32) < t45 then (
          some (4 : Int32)
         ) else (
          some (2 : Int32)
         )
        ).bind fun (t46 : Int32) =>
        some (f_up (f_up (f_up x1 3 4 (x1 3 3)) 3 4 t44) 3 2 t46)
       )
       ) else none
      )
      ) else none
     ) else (
      (g_10 (97 : Int32) (122 : Int32) (f_up x1 3 4 (x1 3 3))).bind fun t50 =>
      (g_11  (f_up (f_up x1 3 4 (x1 3 3)) 3 4 t50)).bind fun t51 =>
      (
       if (8 : Int32) < t51 then (
        some (4 : Int32)
       ) else (
        some (1 : Int32)
       )
      ).bind fun (t52 : Int32) =>
      some (f_up (f_up (f_up x1 3 4 (x1 3 3)) 3 4 t50) 3 2 t52)
     )
     ) else none
    )
    ) else none
   ) else (
    some (f_up (f_up x1 3 4 (x1 3 3)) 3 2 (0 : Int32))
   )
  ).bind fun (t9 : f_M) =>
  some t9
set_option maxRecDepth 4000 in
def g_13  (σ : f_M) : Option (Bool) :=
  (
   if ¬ (σ 3 2) = 0 then (
    some false
   ) else (
    some true
   )
  ).bind fun (t1 : Bool) =>
  some t1
set_option maxRecDepth 4000 in
def g_14 (a1 : Nat) (σ : f_M) : Option (Bool) :=
  if ¬ (σ 3 2) = (1 : Int32) then (
   some false
  ) else (
   (g_11  σ).bind fun t1 =>
   if t1 = (f_sl a1) then (
    (f_lp (fun (s2 : Int32) =>
     if (f_sl a1) ≤ s2 then (
      some (.inr true)
     ) else (
      if σ 3 0 = 1 then (
      (f_rd σ 1 600 ((σ 3 3) + s2)).bind fun v4 =>
      (f_ch a1 s2).bind fun v5 =>
      if v4 = v5 then (
       some (.inl (s2 + (1 : Int32)))
      ) else (
       some (.inr false)
      )
      ) else none
     )
    ) f_F (0 : Int32)).bind fun (r2 : Bool) => some r2
   ) else (
    some false
   )
  )
set_option maxRecDepth 4000 in
def g_15 (a1 : Int32) (σ : f_M) : Option (Bool × f_M) :=
  some (false, (f_up (f_up σ 3 6 a1) 3 7 ((f_up σ 3 6 a1) 3 3)))
set_option maxRecDepth 4000 in
def g_16  (σ : f_M) : Option (Bool × f_M) :=
  (g_12  σ).bind fun t1 =>
  (
   if ¬ (t1 3 2) = (1 : Int32) then (
    (g_15 (1 : Int32) t1).bind fun t3 =>
    if t3.1 = false then (
     some (false, t3.2)
    ) else (
     some (true, t3.2)
    )
   ) else (
    (g_11  t1).bind fun t5 =>
    if t5 ≤ (6 : Int32) then (
     some (true, t1)
    ) else (
     (g_15 (1 : Int32) t1).bind fun t6 =>
     if t6.1 = false then (
      some (false, t6.2)
     ) else (
      some (true, t6.2)
     )
    )
   )
  ).bind fun (t2 : Bool × f_M) =>
  some (t2.1, t2.2)
set_option maxRecDepth 4000 in
def g_17 (a0 : Nat) (a1 : Int32) (a2 : Int32) (σ : f_M) : Option (Int32) :=
  (f_rd σ (a0 + 2) 48 ((a1 * (6 : Int32)) + a2)).bind fun v1 =>
  some v1
set_option maxRecDepth 4000 in
def g_18 (a1 : Int32) (σ : f_M) : Option (Int32) :=
  (
   if a1 < 0 then (
    some (0 : Int32)
   ) else (
    if ((σ 3 4) - (σ 3 3)) ≤ a1 then (
     some (0 : Int32)
    ) else (
     if σ 3 0 = 1 then (
     (f_rd σ 1 600 ((σ 3 3) + a1)).bind fun v3 =>
     some v3
     ) else none
    )
   )
  ).bind fun (t1 : Int32) =>
  if (t1).toInt8.toInt32 = t1 then
  some t1
  else none
set_option maxRecDepth 4000 in
def g_19 (a0 : Nat) (a1 : Int32) (σ : f_M) : Option (Bool) :=
  (f_rd σ (a0 + 1) 8 a1).bind fun v1 =>
  (g_11  σ).bind fun t2 =>
  if v1 = t2 then (
   (f_lp (fun (s3 : Int32) =>
    (f_rd σ (a0 + 1) 8 a1).bind fun v4 =>
    if v4 ≤ s3 then (
     some (.inr true)
    ) else (
     (g_17 a0 a1 s3 σ).bind fun t5 =>
     (g_18 s3 σ).bind fun t6 =>
     if t5 = t6 then (
      some (.inl (s3 + (1 : Int32)))
     ) else (
      some (.inr false)
     )
    )
   ) f_F (0 : Int32)).bind fun (r3 : Bool) => some r3
  ) else (
   some false
  )
set_option maxRecDepth 4000 in
def g_20 (a0 : Nat) (σ : f_M) : Option (Int32) :=
  (f_lp (fun (s1 : Int32) =>
   if (σ a0 0) ≤ s1 then (
    some (.inr (-1 : Int32))
   ) else (
    (g_19 a0 s1 σ).bind fun t2 =>
    if t2 = false then (
     some (.inl (s1 + (1 : Int32)))
    ) else (
     some (.inr s1)
    )
   )
  ) f_F (0 : Int32)).bind fun (r1 : Int32) => some r1
set_option maxRecDepth 4000 in
def g_21  (σ : f_M) : Option (f_M) :=
  (g_11  σ).bind fun t1 =>
  (f_wr σ 6 8 (σ 5 0) t1).bind fun m2 =>
  (f_lp (fun (s3 : Int32 × f_M) =>
   (f_rd s3.2 6 8 (s3.2 5 0)).bind fun v4 =>
   if v4 ≤ s3.1 then (
    some (.inr s3.2)
   ) else (
    (g_18 s3.1 s3.2).bind fun t5 =>
    (f_wr s3.2 7 48 (((s3.2 5 0) * (6 : Int32)) + s3.1) (t5).toInt8.toInt32).bind fun m6 =>
    some (.inl ((s3.1 + (1 : Int32)), m6))
   )
  ) f_F ((0 : Int32), m2)).bind fun (x3 : f_M) =>
  some x3
set_option maxRecDepth 4000 in
def g_22 (a1 : Int32) (a2 : Int32) (σ : f_M) : Option (Bool × f_M) :=
  (g_12  σ).bind fun t1 =>
  if (t1 3 2) = (2 : Int32) then (
   (f_lp (fun (s2 : Int32 × f_M) =>
    if (s2.2 3 4) ≤ s2.1 then (
     some (.inr s2.2)
    ) else (
     if s2.2 3 0 = 1 then (
     (f_rd s2.2 1 600 s2.1).bind fun v4 =>
     some (.inl ((s2.1 + (1 : Int32)), (f_up s2.2 3 5 ((((10 : Int32) * (s2.2 3 5)) + v4) - (48 : Int32)))))
     ) else none
    )
   ) f_F (((f_up t1 3 5 (0 : Int32)) 3 3), (f_up t1 3 5 (0 : Int32)))).bind fun (x2 : f_M) =>
   (
    if (x2 3 5) < a1 then (
     (g_15 (2 : Int32) x2).bind fun t7 =>
     if t7.1 = false then (
      some (false, t7.2)
     ) else (
      some (true, t7.2)
     )
    ) else (
     if (x2 3 5) ≤ a2 then (
      some (true, x2)
     ) else (
      (g_15 (2 : Int32) x2).bind fun t9 =>
      if t9.1 = false then (
       some (false, t9.2)
      ) else (
       some (true, t9.2)
      )
     )
    )
   ).bind fun (t6 : Bool × f_M) =>
   some (t6.1, t6.2)
  ) else (
   (g_15 (1 : Int32) t1).bind fun t13 =>
   some (t13.1, t13.2)
  )
set_option maxRecDepth 4000 in
def g_23  (σ : f_M) : Option (Bool × f_M) :=
  (g_12  σ).bind fun t1 =>
  (
   if (t1 3 2) = (3 : Int32) then (
    some (true, t1)
   ) else (
    (g_15 (1 : Int32) t1).bind fun t3 =>
    if t3.1 = false then (
     some (false, t3.2)
    ) else (
     some (true, t3.2)
    )
   )
  ).bind fun (t2 : Bool × f_M) =>
  some (t2.1, t2.2)
set_option maxRecDepth 4000 in
def g_24  (σ : f_M) : Option (Bool × f_M) :=
  if ¬ (σ 5 0) = (8 : Int32) then (
   (g_16  σ).bind fun t1 =>
   if t1.1 = true then (
    (g_20 5 t1.2).bind fun t2 =>
    if t2 = (-1 : Int32) then (
     (g_21  t1.2).bind fun t3 =>
     (g_22 (0 : Int32) (9999 : Int32) t3).bind fun t4 =>
     if t4.1 = true then (
      (f_wr t4.2 8 8 (t4.2 5 0) (t4.2 3 5)).bind fun m5 =>
      (g_23  (f_up m5 5 0 ((m5 5 0) + (1 : Int32)))).bind fun t6 =>
      some (t6.1, t6.2)
     ) else (
      some (false, t4.2)
     )
    ) else (
     (g_15 (3 : Int32) t1.2).bind fun t8 =>
     some (t8.1, t8.2)
    )
   ) else (
    some (false, t1.2)
   )
  ) else (
   (g_15 (4 : Int32) σ).bind fun t11 =>
   some (t11.1, t11.2)
  )
set_option maxRecDepth 4000 in
def g_25  (σ : f_M) : Option (Bool × f_M) :=
  if ¬ (σ 5 4) = (3 : Int32) then (
   (g_22 (0 : Int32) (9 : Int32) σ).bind fun t1 =>
   if t1.1 = true then (
    (f_wr t1.2 9 3 (t1.2 5 4) (t1.2 3 5)).bind fun m2 =>
    (g_23  (f_up m2 5 4 ((m2 5 4) + (1 : Int32)))).bind fun t3 =>
    some (t3.1, t3.2)
   ) else (
    some (false, t1.2)
   )
  ) else (
   (g_15 (4 : Int32) σ).bind fun t5 =>
   some (t5.1, t5.2)
  )
set_option maxRecDepth 4000 in
def g_26  (σ : f_M) : Option (Bool × f_M) :=
  (g_22 (0 : Int32) (9999 : Int32) σ).bind fun t1 =>
  if t1.1 = true then (
   (g_23  (f_up t1.2 5 6 (t1.2 3 5))).bind fun t2 =>
   some (t2.1, t2.2)
  ) else (
   some (false, t1.2)
  )
set_option maxRecDepth 4000 in
def g_27  (σ : f_M) : Option (Bool × f_M) :=
  (g_14 2 σ).bind fun t1 =>
  if t1 = false then (
   (g_14 3 σ).bind fun t2 =>
   if t2 = false then (
    (g_14 4 σ).bind fun t3 =>
    if t3 = false then (
     (g_15 (1 : Int32) σ).bind fun t4 =>
     some (t4.1, t4.2)
    ) else (
     (g_26  σ).bind fun t5 =>
     some (t5.1, t5.2)
    )
   ) else (
    (g_25  σ).bind fun t7 =>
    some (t7.1, t7.2)
   )
  ) else (
   (g_24  σ).bind fun t9 =>
   some (t9.1, t9.2)
  )
set_option maxRecDepth 4000 in
def g_28  (σ : f_M) : Option (Bool × f_M) :=
  (g_12  (f_up (f_up (f_up σ 5 0 (0 : Int32)) 5 4 (0 : Int32)) 5 6 (1000 : Int32))).bind fun t1 =>
  (f_lp (fun (s2 : Int32 × f_M) =>
   if (600 : Int32) ≤ s2.1 then (
    some (.inr (.inl s2.2))
   ) else (
    (g_13  s2.2).bind fun t3 =>
    if t3 = true then (
     some (.inr (.inl s2.2))
    ) else (
     (g_27  s2.2).bind fun t4 =>
     if t4.1 = true then (
      (g_12  t4.2).bind fun t5 =>
      some (.inl ((s2.1 + (1 : Int32)), t5))
     ) else (
      some (.inr (.inr (false, t4.2)))
     )
    )
   )
  ) f_F ((0 : Int32), t1)).bind fun (y2 : (f_M) ⊕ (Bool × f_M)) => Sum.elim (fun x2 =>
   (
    if (x2 5 0) ≤ 0 then (
     (g_15 (5 : Int32) x2).bind fun t10 =>
     if t10.1 = false then (
      some (false, t10.2)
     ) else (
      some (true, t10.2)
     )
    ) else (
     if 0 < (x2 5 4) then (
      some (true, x2)
     ) else (
      (g_15 (5 : Int32) x2).bind fun t12 =>
      if t12.1 = false then (
       some (false, t12.2)
      ) else (
       some (true, t12.2)
      )
     )
    )
   ).bind fun (t9 : Bool × f_M) =>
   some (t9.1, t9.2)
  ) (fun r2 => some r2) y2
set_option maxRecDepth 4000 in
def g_29  (σ : f_M) : Option (f_M) :=
  (f_cp (f_up σ 103 0 (σ 5 0)) .int 6 8 104 8 (0 : Int32) (0 : Int32) (8 : Int32)).bind fun m1 =>
  (f_cp m1 .byte 7 48 105 48 (0 : Int32) (0 : Int32) (48 : Int32)).bind fun m2 =>
  (f_cp m2 .int 8 8 106 8 (0 : Int32) (0 : Int32) (8 : Int32)).bind fun m3 =>
  (f_cp (f_up m3 103 4 (m3 5 4)) .int 9 3 107 3 (0 : Int32) (0 : Int32) (3 : Int32)).bind fun m4 =>
  some (f_up m4 103 6 (m4 5 6))
set_option maxRecDepth 4000 in
def g_30  (σ : f_M) : Option (f_M) :=
  (f_cp (f_up (f_up σ 121 0 (0 : Int32)) 121 1 ((f_up σ 121 0 (0 : Int32)) 103 6)) .int 106 8 122 8 (0 : Int32) (0 : Int32) (8 : Int32)).bind fun m1 =>
  some (f_up (f_up (f_up (f_up (f_up (f_up (f_up m1 121 3 (0 : Int32)) 121 5 (0 : Int32)) 121 10 (0 : Int32)) 121 11 (0 : Int32)) 121 12 (0 : Int32)) 121 13 (0 : Int32)) 121 14 (0 : Int32))
set_option maxRecDepth 4000 in
def g_31  (σ : f_M) : Option (f_M) :=
  (g_29  σ).bind fun t1 =>
  (g_30  t1).bind fun t2 =>
  some t2
set_option maxRecDepth 4000 in
def g_32  (σ : f_M) : Option (f_M) :=
  some (f_up σ 44 2 (0 : Int32))
set_option maxRecDepth 4000 in
def g_33  (σ : f_M) : Option (Int32 × f_M) :=
  (g_9  σ).bind fun t1 =>
  (g_28  t1).bind fun t2 =>
  if t2.1 = true then (
   (g_31  t2.2).bind fun t3 =>
   (g_32  t3).bind fun t4 =>
   some (((f_up t4 0 15 (0 : Int32)) 103 0), (f_up t4 0 15 (0 : Int32)))
  ) else (
   some ((-1 : Int32), t2.2)
  )
set_option maxRecDepth 4000 in
def g_35  (σ : f_M) : Option (f_M) :=
  (f_lp (fun (s1 : Int32 × f_M) =>
   if (2420 : Int32) ≤ s1.1 then (
    some (.inr s1.2)
   ) else (
    (f_wr s1.2 156 2420 s1.1 (0 : Int32)).bind fun m2 =>
    some (.inl ((s1.1 + (1 : Int32)), m2))
   )
  ) f_F ((0 : Int32), σ)).bind fun (x1 : f_M) =>
  (f_wr x1 156 2420 (1 : Int32) (1000 : Int32)).bind fun m4 =>
  some m4
set_option maxRecDepth 4000 in
def g_36 (a0 : Int32) (σ : f_M) : Option (Int32) :=
  some ((20 : Int32) + ((9 : Int32) * a0))
set_option maxRecDepth 4000 in
def g_37 (a1 : Int32) (σ : f_M) : Option (f_M) :=
  (f_rd σ 156 2420 (2 : Int32)).bind fun v1 =>
  (g_36 v1 σ).bind fun t2 =>
  (f_wr σ 156 2420 t2 (σ 155 8)).bind fun m3 =>
  (f_lp (fun (s4 : Int32 × f_M) =>
   if (s4.2 155 8) ≤ s4.1 then (
    some (.inr s4.2)
   ) else (
    (f_rd s4.2 160 6 s4.1).bind fun v5 =>
    (f_wr s4.2 156 2420 ((t2 + (1 : Int32)) + s4.1) v5).bind fun m6 =>
    some (.inl ((s4.1 + (1 : Int32)), m6))
   )
  ) f_F ((0 : Int32), m3)).bind fun (x4 : f_M) =>
  (f_wr x4 156 2420 (t2 + (7 : Int32)) a1).bind fun m8 =>
  (f_rd m8 156 2420 (2 : Int32)).bind fun v9 =>
  (f_wr m8 156 2420 (2 : Int32) (v9 + (1 : Int32))).bind fun m10 =>
  some m10
set_option maxRecDepth 4000 in
def g_38 (a1 : Int32) (σ : f_M) : Option (f_M) :=
  (f_rd σ 156 2420 (3 : Int32)).bind fun v1 =>
  (f_wr σ 156 2420 ((95 : Int32) + v1) a1).bind fun m2 =>
  (f_rd m2 156 2420 (3 : Int32)).bind fun v3 =>
  (f_wr m2 156 2420 (3 : Int32) (v3 + (1 : Int32))).bind fun m4 =>
  some m4
set_option maxRecDepth 4000 in
def g_39  (σ : f_M) : Option (Int32) :=
  (f_rd σ 156 2420 (1 : Int32)).bind fun v1 =>
  (f_lp (fun (s2 : Int32 × Int32) =>
   (f_rd σ 156 2420 (2 : Int32)).bind fun v3 =>
   if v3 ≤ s2.2 then (
    some (.inr s2.1)
   ) else (
    (g_36 s2.2 σ).bind fun t4 =>
    (f_rd σ 156 2420 (t4 + (7 : Int32))).bind fun v5 =>
    some (.inl ((s2.1 + v5), (s2.2 + (1 : Int32))))
   )
  ) f_F (v1, (0 : Int32))).bind fun (x2 : Int32) =>
  some x2
set_option maxRecDepth 4000 in
def g_41 (a1 : Int32) (σ : f_M) : Option (f_M) :=
  (f_lp (fun (s1 : Int32 × f_M) =>
   if s1.1 < 0 then (
    some (.inr s1.2)
   ) else (
    if (600 : Int32) ≤ (s1.2 0 1) then (
     some (.inr s1.2)
    ) else (
     (f_wr s1.2 1 600 (s1.2 0 1) (((((a1).toUInt32 >>> ((s1.1).toUInt32 &&& Int32.toUInt32 31)).toInt32)).toInt8.toInt32).toInt8.toInt32).bind fun m2 =>
     some (.inl ((s1.1 + (-8 : Int32)), (f_up m2 0 1 ((m2 0 1) + (1 : Int32)))))
    )
   )
  ) f_F ((24 : Int32), σ)).bind fun (x1 : f_M) =>
  some x1
set_option maxRecDepth 4000 in
def g_42 (a1 : Int32) (a2 : Int32) (a3 : Int32) (a4 : Int32) (a5 : Int32) (σ : f_M) : Option (Int32 × f_M) :=
  if ((σ 0 1) + (20 : Int32)) ≤ (600 : Int32) then (
   (g_41 a1 σ).bind fun t1 =>
   (g_41 a2 t1).bind fun t2 =>
   (g_41 a3 t2).bind fun t3 =>
   (g_41 a4 t3).bind fun t4 =>
   (g_41 a5 t4).bind fun t5 =>
   some ((t5 0 1), t5)
  ) else (
   some ((-1 : Int32), σ)
  )
set_option maxRecDepth 4000 in
def g_43 (a1 : Int32) (σ : f_M) : Option (f_M) :=
  (f_lp (fun (s1 : Int32 × f_M) =>
   if s1.1 < 0 then (
    some (.inr s1.2)
   ) else (
    (f_wr s1.2 161 600 (s1.2 155 10) (((a1 >>> (((8 : Int32) * s1.1) &&& 31))).toInt8.toInt32).toInt8.toInt32).bind fun m2 =>
    some (.inl ((s1.1 + (-1 : Int32)), (f_up m2 155 10 ((m2 155 10) + (1 : Int32)))))
   )
  ) f_F ((3 : Int32), σ)).bind fun (x1 : f_M) =>
  some x1
set_option maxRecDepth 4000 in
def g_44 (a1 : Int32) (a2 : Int32) (a3 : Int32) (a4 : Int32) (a5 : Int32) (σ : f_M) : Option (Int32 × f_M) :=
  if ((f_up σ 155 6 (0 : Int32)) 155 10) ≤ (580 : Int32) then (
   (g_43 a1 (f_up σ 155 6 (0 : Int32))).bind fun t1 =>
   (g_43 a2 t1).bind fun t2 =>
   (g_43 a3 t2).bind fun t3 =>
   (g_43 a4 t3).bind fun t4 =>
   (g_43 a5 t4).bind fun t5 =>
   some ((t5 155 10), t5)
  ) else (
   some ((-1 : Int32), (f_up σ 155 6 (0 : Int32)))
  )
set_option maxRecDepth 4000 in
def g_45 (a1 : Int32) (σ : f_M) : Option (Bool × f_M) :=
  if a1 < 0 then (
   some (false, σ)
  ) else (
   if a1 ≤ (σ 0 1) then (
    some (true, (f_up σ 0 1 a1))
   ) else (
    some (false, σ)
   )
  )
set_option maxRecDepth 4000 in
def g_46 (a0 : Int64) (a2 : Int64) (a4 : Int64) (σ : f_M) : Option (Bool) :=
  (
   if (lg_cmp a0 a2) < 0 then (
    some false
   ) else (
    if 0 < (lg_cmp a0 a4) then (
     some false
    ) else (
     some true
    )
   )
  ).bind fun (t1 : Bool) =>
  some t1
set_option maxRecDepth 4000 in
def g_47 (a1 : Int32) (σ : f_M) : Option (Bool × f_M) :=
  (g_46 (a1).toInt64 (0 : Int64) (((f_up σ 155 6 (0 : Int32)) 155 10)).toInt64 (f_up σ 155 6 (0 : Int32))).bind fun t1 =>
  if t1 = true then (
   some (true, (f_up (f_up σ 155 6 (0 : Int32)) 155 10 a1))
  ) else (
   some (false, (f_up σ 155 6 (0 : Int32)))
  )
set_option maxRecDepth 4000 in
def g_48 (a1 : Nat) (σ : f_M) : Option (f_M) :=
  (f_lp (fun (s1 : Int32 × f_M) =>
   if (2420 : Int32) ≤ s1.1 then (
    some (.inr s1.2)
   ) else (
    (f_rd s1.2 156 2420 s1.1).bind fun v2 =>
    (f_wr s1.2 a1 2420 s1.1 v2).bind fun m3 =>
    some (.inl ((s1.1 + (1 : Int32)), m3))
   )
  ) f_F ((0 : Int32), σ)).bind fun (x1 : f_M) =>
  some x1
set_option maxRecDepth 4000 in
def g_49 (a1 : Int32) (σ : f_M) : Option (Bool) :=
  (
   if (σ 155 10) ≤ a1 then (
    some false
   ) else (
    (f_rd σ 161 600 a1).bind fun v2 =>
    (g_46 (v2).toInt64 (97 : Int64) (122 : Int64) σ).bind fun t3 =>
    if t3 = false then (
     some false
    ) else (
     some true
    )
   )
  ).bind fun (t1 : Bool) =>
  some t1
set_option maxRecDepth 4000 in
def g_50 (a1 : Int32) (σ : f_M) : Option (Bool) :=
  (
   if (σ 155 10) ≤ a1 then (
    some false
   ) else (
    (f_rd σ 161 600 a1).bind fun v2 =>
    (g_46 (v2).toInt64 (48 : Int64) (57 : Int64) σ).bind fun t3 =>
    if t3 = false then (
     some false
    ) else (
     some true
    )
   )
  ).bind fun (t1 : Bool) =>
  some t1
set_option maxRecDepth 4000 in
def g_51  (σ : f_M) : Option (f_M) :=
  if (σ 155 17) ≤ 0 then (
   (f_lp (fun (s1 : f_M) =>
    if (s1 155 10) ≤ (s1 155 13) then (
     some (.inr s1)
    ) else (
     (f_rd s1 161 600 (s1 155 13)).bind fun v2 =>
     if v2 = (32 : Int32) then (
      some (.inl (f_up s1 155 13 ((s1 155 13) + (1 : Int32))))
     ) else (
      (f_rd s1 161 600 (s1 155 13)).bind fun v3 =>
      if ¬ v3 = (10 : Int32) then (
       some (.inr s1)
      ) else (
       some (.inl (f_up s1 155 13 ((s1 155 13) + (1 : Int32))))
      )
     )
    )
   ) f_F (f_up σ 155 13 (σ 155 14))).bind fun (x1 : f_M) =>
   (
    if ¬ ((f_up x1 155 14 (x1 155 13)) 155 13) = ((f_up x1 155 14 (x1 155 13)) 155 10) then (
     (g_49 ((f_up x1 155 14 (x1 155 13)) 155 13) (f_up x1 155 14 (x1 155 13))).bind fun t8 =>
     if t8 = false then (
      (g_50 ((f_up x1 155 14 (x1 155 13)) 155 13) (f_up x1 155 14 (x1 155 13))).bind fun t9 =>
      if t9 = false then (
       (f_rd (f_up x1 155 14 (x1 155 13)) 161 600 ((f_up x1 155 14 (x1 155 13)) 155 13)).bind fun v10 =>
       (
        if ¬ v10 = (59 : Int32) then (
         some (4 : Int32)
        ) else (
         some (3 : Int32)
        )
       ).bind fun (t11 : Int32) =>
       some (f_up (f_up (f_up x1 155 14 (x1 155 13)) 155 15 t11) 155 14 (((f_up (f_up x1 155 14 (x1 155 13)) 155 15 t11) 155 14) + (1 : Int32)))
      ) else (
       (f_lp (fun (s13 : f_M) =>
        (g_50 (s13 155 14) s13).bind fun t14 =>
        if t14 = false then (
         some (.inr s13)
        ) else (
         (
          if (4 : Int32) ≤ ((s13 155 14) - (s13 155 13)) then (
           some (s13 155 16)
          ) else (
           (f_rd s13 161 600 (s13 155 14)).bind fun v16 =>
           some ((((10 : Int32) * (s13 155 16)) + v16) - (48 : Int32))
          )
         ).bind fun (t15 : Int32) =>
         some (.inl (f_up (f_up s13 155 16 t15) 155 14 (((f_up s13 155 16 t15) 155 14) + (1 : Int32))))
        )
       ) f_F (f_up (f_up x1 155 14 (x1 155 13)) 155 16 (0 : Int32))).bind fun (x13 : f_M) =>
       (
        if ((x13 155 14) - (x13 155 13)) ≤ (4 : Int32) then (
         some (2 : Int32)
        ) else (
         some (4 : Int32)
        )
       ).bind fun (t19 : Int32) =>
       some (f_up x13 155 15 t19)
      )
     ) else (
      (f_lp (fun (s22 : f_M) =>
       (g_49 (s22 155 14) s22).bind fun t23 =>
       if t23 = false then (
        some (.inr s22)
       ) else (
        some (.inl (f_up s22 155 14 ((s22 155 14) + (1 : Int32))))
       )
      ) f_F (f_up x1 155 14 (x1 155 13))).bind fun (x22 : f_M) =>
      (
       if ((x22 155 14) - (x22 155 13)) ≤ (8 : Int32) then (
        some (1 : Int32)
       ) else (
        some (4 : Int32)
       )
      ).bind fun (t25 : Int32) =>
      some (f_up x22 155 15 t25)
     )
    ) else (
     some (f_up (f_up x1 155 14 (x1 155 13)) 155 15 (0 : Int32))
    )
   ).bind fun (t7 : f_M) =>
   some t7
  ) else (
   some σ
  )
set_option maxRecDepth 4000 in
def g_52  (σ : f_M) : Option (f_M) :=
  (g_51  (f_up (f_up σ 155 17 (0 : Int32)) 155 14 (0 : Int32))).bind fun t1 =>
  some t1
set_option maxRecDepth 4000 in
def g_53 (a1 : Nat) (σ : f_M) : Option (Bool) :=
  if 0 < (σ 155 17) then (
   some false
  ) else (
   if ¬ (σ 155 15) = (1 : Int32) then (
    some false
   ) else (
    if ((σ 155 14) - (σ 155 13)) = (f_sl a1) then (
     (f_lp (fun (s1 : Int32) =>
      if (f_sl a1) ≤ s1 then (
       some (.inr true)
      ) else (
       (f_rd σ 161 600 ((σ 155 13) + s1)).bind fun v2 =>
       (f_ch a1 s1).bind fun v3 =>
       if v2 = v3 then (
        some (.inl (s1 + (1 : Int32)))
       ) else (
        some (.inr false)
       )
      )
     ) f_F (0 : Int32)).bind fun (r1 : Bool) => some r1
    ) else (
     some false
    )
   )
  )
set_option maxRecDepth 4000 in
def g_54 (a1 : Bool) (a2 : Int32) (σ : f_M) : Option (f_M) :=
  (
   if ¬ (σ 155 17) = 0 then (
    some σ
   ) else (
    if a1 = true then (
     some σ
    ) else (
     some (f_up (f_up σ 155 17 a2) 155 18 ((f_up σ 155 17 a2) 155 13))
    )
   )
  ).bind fun (t1 : f_M) =>
  some t1
set_option maxRecDepth 4000 in
def g_55  (σ : f_M) : Option (f_M) :=
  (
   if ¬ (σ 155 15) = (1 : Int32) then (
    some false
   ) else (
    if (6 : Int32) < ((σ 155 14) - (σ 155 13)) then (
     some false
    ) else (
     some true
    )
   )
  ).bind fun (t1 : Bool) =>
  (g_54 t1 (1 : Int32) σ).bind fun t4 =>
  (
   if ¬ (t4 155 17) = 0 then (
    some (0 : Int32)
   ) else (
    some ((t4 155 14) - (t4 155 13))
   )
  ).bind fun (t5 : Int32) =>
  (f_lp (fun (s7 : Int32 × f_M) =>
   if (s7.2 155 8) ≤ s7.1 then (
    some (.inr s7.2)
   ) else (
    (f_rd s7.2 161 600 ((s7.2 155 13) + s7.1)).bind fun v8 =>
    (f_wr s7.2 160 6 s7.1 v8).bind fun m9 =>
    some (.inl ((s7.1 + (1 : Int32)), m9))
   )
  ) f_F ((0 : Int32), (f_up t4 155 8 t5))).bind fun (x7 : f_M) =>
  some x7
set_option maxRecDepth 4000 in
def g_56  (σ : f_M) : Option (Int32) :=
  (f_lp (fun (s1 : Int32) =>
   (f_rd σ 156 2420 (2 : Int32)).bind fun v2 =>
   if v2 ≤ s1 then (
    some (.inr (-1 : Int32))
   ) else (
    (g_36 s1 σ).bind fun t3 =>
    (f_rd σ 156 2420 t3).bind fun v4 =>
    (
     if ¬ v4 = (σ 155 8) then (
      some false
     ) else (
      some true
     )
    ).bind fun (t5 : Bool) =>
    (f_lp (fun (s7 : Bool × Int32) =>
     if (σ 155 8) ≤ s7.2 then (
      some (.inr s7.1)
     ) else (
      if s7.1 = false then (
       some (.inr s7.1)
      ) else (
       (g_36 s1 σ).bind fun t8 =>
       (f_rd σ 156 2420 ((t8 + (1 : Int32)) + s7.2)).bind fun v9 =>
       (f_rd σ 160 6 s7.2).bind fun v10 =>
       (
        if ¬ v9 = v10 then (
         some false
        ) else (
         some true
        )
       ).bind fun (t11 : Bool) =>
       some (.inl (t11, (s7.2 + (1 : Int32))))
      )
     )
    ) f_F (t5, (0 : Int32))).bind fun (x7 : Bool) =>
    if x7 = false then (
     some (.inl (s1 + (1 : Int32)))
    ) else (
     some (.inr s1)
    )
   )
  ) f_F (0 : Int32)).bind fun (r1 : Int32) => some r1
set_option maxRecDepth 4000 in
def g_57 (a1 : Int32) (a2 : Int32) (σ : f_M) : Option (Int32 × f_M) :=
  (
   if ¬ (σ 155 15) = (2 : Int32) then (
    some false
   ) else (
    some true
   )
  ).bind fun (t1 : Bool) =>
  (g_54 t1 (1 : Int32) σ).bind fun t3 =>
  (g_46 ((t3 155 16)).toInt64 (a1).toInt64 (a2).toInt64 t3).bind fun t4 =>
  (g_54 t4 (2 : Int32) t3).bind fun t5 =>
  (
   if ¬ (t5 155 17) = 0 then (
    some a1
   ) else (
    some (t5 155 16)
   )
  ).bind fun (t6 : Int32) =>
  (g_51  t5).bind fun t8 =>
  some (t6, t8)
set_option maxRecDepth 4000 in
def g_58  (σ : f_M) : Option (f_M) :=
  (f_rd σ 156 2420 (2 : Int32)).bind fun v1 =>
  (
   if (8 : Int32) ≤ v1 then (
    some false
   ) else (
    some true
   )
  ).bind fun (t2 : Bool) =>
  (g_54 t2 (4 : Int32) σ).bind fun t4 =>
  (g_51  t4).bind fun t5 =>
  (g_55  t5).bind fun t6 =>
  (
   if 0 < (t6 155 17) then (
    some true
   ) else (
    (g_56  t6).bind fun t8 =>
    if ¬ t8 = (-1 : Int32) then (
     some false
    ) else (
     some true
    )
   )
  ).bind fun (t7 : Bool) =>
  (g_54 t7 (3 : Int32) t6).bind fun t11 =>
  (g_51  t11).bind fun t12 =>
  (g_57 (0 : Int32) (9999 : Int32) t12).bind fun t13 =>
  (
   if ¬ (t13.2 155 17) = 0 then (
    some t13.2
   ) else (
    (g_37 t13.1 t13.2).bind fun t15 =>
    some t15
   )
  ).bind fun (t14 : f_M) =>
  some t14
set_option maxRecDepth 4000 in
def g_59  (σ : f_M) : Option (f_M) :=
  (f_rd σ 156 2420 (3 : Int32)).bind fun v1 =>
  (
   if (3 : Int32) ≤ v1 then (
    some false
   ) else (
    some true
   )
  ).bind fun (t2 : Bool) =>
  (g_54 t2 (4 : Int32) σ).bind fun t4 =>
  (g_51  t4).bind fun t5 =>
  (g_57 (0 : Int32) (9 : Int32) t5).bind fun t6 =>
  (
   if ¬ (t6.2 155 17) = 0 then (
    some t6.2
   ) else (
    (g_38 t6.1 t6.2).bind fun t8 =>
    some t8
   )
  ).bind fun (t7 : f_M) =>
  some t7
set_option maxRecDepth 4000 in
def g_60  (σ : f_M) : Option (f_M) :=
  (g_51  σ).bind fun t1 =>
  (g_57 (0 : Int32) (9999 : Int32) t1).bind fun t2 =>
  (
   if ¬ (t2.2 155 17) = 0 then (
    some t2.2
   ) else (
    (f_wr t2.2 156 2420 (1 : Int32) t2.1).bind fun m4 =>
    some m4
   )
  ).bind fun (t3 : f_M) =>
  some t3
set_option maxRecDepth 4000 in
def g_61  (σ : f_M) : Option (f_M) :=
  (
   if ¬ (σ 155 15) = (3 : Int32) then (
    some false
   ) else (
    some true
   )
  ).bind fun (t1 : Bool) =>
  (g_54 t1 (1 : Int32) σ).bind fun t3 =>
  (g_51  t3).bind fun t4 =>
  some t4
set_option maxRecDepth 4000 in
def g_62  (σ : f_M) : Option (f_M) :=
  (g_53 2 σ).bind fun t1 =>
  (
   if t1 = false then (
    (g_53 3 σ).bind fun t3 =>
    if t3 = false then (
     (g_53 4 σ).bind fun t4 =>
     if t4 = false then (
      (g_54 false (1 : Int32) σ).bind fun t5 =>
      some t5
     ) else (
      (g_60  σ).bind fun t6 =>
      some t6
     )
    ) else (
     (g_59  σ).bind fun t8 =>
     some t8
    )
   ) else (
    (g_58  σ).bind fun t10 =>
    some t10
   )
  ).bind fun (t2 : f_M) =>
  (g_61  t2).bind fun t12 =>
  some t12
set_option maxRecDepth 4000 in
def g_63  (σ : f_M) : Option (f_M) :=
  (
   if ¬ ((f_up σ 155 11 (σ 155 17)) 155 17) = 0 then (
    some ((f_up σ 155 11 (σ 155 17)) 155 18)
   ) else (
    some (-1 : Int32)
   )
  ).bind fun (t1 : Int32) =>
  some (f_up (f_up (f_up σ 155 11 (σ 155 17)) 155 12 t1) 155 10 (0 : Int32))
set_option maxRecDepth 4000 in
def g_64 (a1 : Nat) (σ : f_M) : Option (f_M) :=
  (f_lp (fun (s1 : Int32 × f_M) =>
   if (2420 : Int32) ≤ s1.1 then (
    some (.inr s1.2)
   ) else (
    (f_rd s1.2 a1 2420 s1.1).bind fun v2 =>
    (f_wr s1.2 156 2420 s1.1 v2).bind fun m3 =>
    some (.inl ((s1.1 + (1 : Int32)), m3))
   )
  ) f_F ((0 : Int32), σ)).bind fun (x1 : f_M) =>
  some x1
set_option maxRecDepth 4000 in
def g_65  (σ : f_M) : Option (Int32 × f_M) :=
  (g_48 157 (f_up σ 155 6 (0 : Int32))).bind fun t1 =>
  (g_35  t1).bind fun t2 =>
  (g_52  t2).bind fun t3 =>
  (f_lp (fun (s4 : f_M) =>
   if ¬ (s4 155 17) = 0 then (
    some (.inr s4)
   ) else (
    if (s4 155 15) = 0 then (
     some (.inr s4)
    ) else (
     (g_62  s4).bind fun t5 =>
     some (.inl t5)
    )
   )
  ) f_F t3).bind fun (x4 : f_M) =>
  (f_rd x4 156 2420 (2 : Int32)).bind fun v8 =>
  (
   if v8 ≤ 0 then (
    some false
   ) else (
    (f_rd x4 156 2420 (3 : Int32)).bind fun v10 =>
    if v10 ≤ 0 then (
     some false
    ) else (
     some true
    )
   )
  ).bind fun (t9 : Bool) =>
  (g_54 t9 (5 : Int32) x4).bind fun t13 =>
  (g_63  t13).bind fun t14 =>
  if (t14 155 17) ≤ 0 then (
   (g_39  t14).bind fun t15 =>
   (f_wr t14 156 2420 (9 : Int32) t15).bind fun m16 =>
   (f_rd (f_up (f_up m16 155 4 (0 : Int32)) 155 5 (0 : Int32)) 156 2420 (2 : Int32)).bind fun v17 =>
   some (v17, (f_up (f_up m16 155 4 (0 : Int32)) 155 5 (0 : Int32)))
  ) else (
   (g_64 157 t14).bind fun t18 =>
   some ((-1 : Int32), t18)
  )
set_option maxRecDepth 4000 in
def g_66  (σ : f_M) : Option (Int32) :=
  (g_14 5 σ).bind fun t1 =>
  if t1 = false then (
   (g_14 6 σ).bind fun t2 =>
   if t2 = false then (
    (g_14 7 σ).bind fun t3 =>
    if t3 = false then (
     (g_14 8 σ).bind fun t4 =>
     if t4 = false then (
      (g_14 9 σ).bind fun t5 =>
      (
       if t5 = false then (
        some (-1 : Int32)
       ) else (
        some (4 : Int32)
       )
      ).bind fun (t6 : Int32) =>
      some t6
     ) else (
      some (3 : Int32)
     )
    ) else (
     some (2 : Int32)
    )
   ) else (
    some (1 : Int32)
   )
  ) else (
   some (0 : Int32)
  )
set_option maxRecDepth 4000 in
def g_67 (a1 : Nat) (a2 : Int32) (a3 : Int32) (a4 : Int32) (σ : f_M) : Option (Bool × f_M) :=
  (g_22 a3 a4 σ).bind fun t1 =>
  if t1.1 = true then (
   (f_wr t1.2 a1 7 a2 (t1.2 3 5)).bind fun m2 =>
   some (true, m2)
  ) else (
   some (false, t1.2)
  )
set_option maxRecDepth 4000 in
def g_68 (a2 : Nat) (σ : f_M) : Option (Bool × f_M) :=
  (g_16  σ).bind fun t1 =>
  if t1.1 = true then (
   (g_20 103 t1.2).bind fun t2 =>
   (f_wr t1.2 a2 7 (1 : Int32) t2).bind fun m3 =>
   (f_rd m3 a2 7 (1 : Int32)).bind fun v4 =>
   (
    if ¬ v4 = (-1 : Int32) then (
     some (true, m3)
    ) else (
     (g_15 (3 : Int32) m3).bind fun t6 =>
     if t6.1 = false then (
      some (false, t6.2)
     ) else (
      some (true, t6.2)
     )
    )
   ).bind fun (t5 : Bool × f_M) =>
   some (t5.1, t5.2)
  ) else (
   some (false, t1.2)
  )
set_option maxRecDepth 4000 in
def g_69 (a2 : Nat) (σ : f_M) : Option (Bool × f_M) :=
  (f_rd σ a2 7 (0 : Int32)).bind fun v1 =>
  if v1 = (0 : Int32) then (
   (g_67 a2 (1 : Int32) (1 : Int32) (48 : Int32) σ).bind fun t2 =>
   (
    if t2.1 = false then (
     some (false, t2.2)
    ) else (
     (g_67 a2 (2 : Int32) (0 : Int32) (150 : Int32) t2.2).bind fun t4 =>
     if t4.1 = false then (
      some (false, t4.2)
     ) else (
      (g_67 a2 (3 : Int32) (0 : Int32) (50 : Int32) t4.2).bind fun t5 =>
      if t5.1 = false then (
       some (false, t5.2)
      ) else (
       some (true, t5.2)
      )
     )
    )
   ).bind fun (t3 : Bool × f_M) =>
   some (t3.1, t3.2)
  ) else
  if v1 = (1 : Int32) then (
   (g_68 a2 σ).bind fun t10 =>
   (
    if t10.1 = false then (
     some (false, t10.2)
    ) else (
     (g_67 a2 (2 : Int32) (0 : Int32) (1000 : Int32) t10.2).bind fun t12 =>
     if t12.1 = false then (
      some (false, t12.2)
     ) else (
      (g_67 a2 (3 : Int32) (1 : Int32) (24 : Int32) t12.2).bind fun t13 =>
      if t13.1 = false then (
       some (false, t13.2)
      ) else (
       (g_67 a2 (4 : Int32) (1 : Int32) (500 : Int32) t13.2).bind fun t14 =>
       if t14.1 = false then (
        some (false, t14.2)
       ) else (
        (g_67 a2 (5 : Int32) (0 : Int32) (150 : Int32) t14.2).bind fun t15 =>
        if t15.1 = false then (
         some (false, t15.2)
        ) else (
         (f_rd t15.2 a2 7 (5 : Int32)).bind fun v16 =>
         (g_67 a2 (6 : Int32) v16 (150 : Int32) t15.2).bind fun t17 =>
         if t17.1 = false then (
          some (false, t17.2)
         ) else (
          some (true, t17.2)
         )
        )
       )
      )
     )
    )
   ).bind fun (t11 : Bool × f_M) =>
   some (t11.1, t11.2)
  ) else
  if v1 = (2 : Int32) then (
   (g_68 a2 σ).bind fun t25 =>
   (
    if t25.1 = false then (
     some (false, t25.2)
    ) else (
     (g_67 a2 (2 : Int32) (0 : Int32) (1000 : Int32) t25.2).bind fun t27 =>
     if t27.1 = false then (
      some (false, t27.2)
     ) else (
      (g_67 a2 (3 : Int32) (1 : Int32) (24 : Int32) t27.2).bind fun t28 =>
      if t28.1 = false then (
       some (false, t28.2)
      ) else (
       (g_67 a2 (4 : Int32) (1 : Int32) (500 : Int32) t28.2).bind fun t29 =>
       if t29.1 = false then (
        some (false, t29.2)
       ) else (
        (g_67 a2 (5 : Int32) (0 : Int32) (50 : Int32) t29.2).bind fun t30 =>
        if t30.1 = false then (
         some (false, t30.2)
        ) else (
         some (true, t30.2)
        )
       )
      )
     )
    )
   ).bind fun (t26 : Bool × f_M) =>
   some (t26.1, t26.2)
  ) else
  if v1 = (3 : Int32) then (
   (g_67 a2 (1 : Int32) (0 : Int32) (19 : Int32) σ).bind fun t37 =>
   some (t37.1, t37.2)
  ) else
  (
   (g_68 a2 σ).bind fun t39 =>
   (
    if t39.1 = false then (
     some (false, t39.2)
    ) else (
     (g_67 a2 (2 : Int32) (1 : Int32) (999 : Int32) t39.2).bind fun t41 =>
     if t41.1 = false then (
      some (false, t41.2)
     ) else (
      some (true, t41.2)
     )
    )
   ).bind fun (t40 : Bool × f_M) =>
   some (t40.1, t40.2)
  )
set_option maxRecDepth 4000 in
def g_70  (σ : f_M) : Option (Bool × f_M) :=
  (g_66  σ).bind fun t1 =>
  if ¬ t1 = (-1 : Int32) then (
   if ¬ (σ 10 1) = (30 : Int32) then (
    (f_ix 30 (σ 10 1)).bind fun v2 =>
    (f_wr σ (12 + v2) 7 (0 : Int32) t1).bind fun m3 =>
    (g_69 (12 + v2) m3).bind fun t4 =>
    if t4.1 = true then (
     (g_23  (f_up t4.2 10 1 ((t4.2 10 1) + (1 : Int32)))).bind fun t5 =>
     some (t5.1, t5.2)
    ) else (
     some (false, t4.2)
    )
   ) else (
    (g_15 (4 : Int32) σ).bind fun t7 =>
    some (t7.1, t7.2)
   )
  ) else (
   (g_15 (1 : Int32) σ).bind fun t9 =>
   some (t9.1, t9.2)
  )
set_option maxRecDepth 4000 in
def g_71  (σ : f_M) : Option (Bool × f_M) :=
  (g_12  (f_up σ 10 1 (0 : Int32))).bind fun t1 =>
  (f_lp (fun (s2 : Int32 × f_M) =>
   if (30 : Int32) < s2.1 then (
    some (.inr (.inl s2.2))
   ) else (
    (g_13  s2.2).bind fun t3 =>
    if t3 = true then (
     some (.inr (.inl s2.2))
    ) else (
     (g_70  s2.2).bind fun t4 =>
     if t4.1 = true then (
      (g_12  t4.2).bind fun t5 =>
      some (.inl ((s2.1 + (1 : Int32)), t5))
     ) else (
      some (.inr (.inr (false, t4.2)))
     )
    )
   )
  ) f_F ((0 : Int32), t1)).bind fun (y2 : (f_M) ⊕ (Bool × f_M)) => Sum.elim (fun x2 =>
   some (true, x2)
  ) (fun r2 => some r2) y2
set_option maxRecDepth 4000 in
def g_72 (a0 : Nat) (a1 : Nat) (σ : f_M) : Option (f_M) :=
  (f_cp (f_up (f_up σ a0 0 (σ a1 0)) a0 1 ((f_up σ a0 0 (σ a1 0)) a1 1)) .int (a1 + 1) 8 (a0 + 1) 8 (0 : Int32) (0 : Int32) (8 : Int32)).bind fun m1 =>
  (f_lp (fun (s2 : Int32 × f_M) =>
   if (20 : Int32) ≤ s2.1 then (
    some (.inr s2.2)
   ) else (
    (f_rd s2.2 (a1 + 2) 20 s2.1).bind fun v3 =>
    (f_wr s2.2 (a0 + 2) 20 s2.1 (v3 &&& 1)).bind fun m4 =>
    some (.inl ((s2.1 + (1 : Int32)), m4))
   )
  ) f_F ((0 : Int32), (f_up m1 a0 3 (m1 a1 3)))).bind fun (x2 : f_M) =>
  (f_cp (f_up x2 a0 5 (x2 a1 5)) .int (a1 + 3) 20 (a0 + 3) 20 (0 : Int32) (0 : Int32) (20 : Int32)).bind fun m6 =>
  (f_cp m6 .int (a1 + 4) 20 (a0 + 4) 20 (0 : Int32) (0 : Int32) (20 : Int32)).bind fun m7 =>
  (f_cp m7 .int (a1 + 5) 20 (a0 + 5) 20 (0 : Int32) (0 : Int32) (20 : Int32)).bind fun m8 =>
  (f_cp m8 .int (a1 + 6) 20 (a0 + 6) 20 (0 : Int32) (0 : Int32) (20 : Int32)).bind fun m9 =>
  some (f_up (f_up (f_up (f_up (f_up m9 a0 10 (m9 a1 10)) a0 11 ((f_up m9 a0 10 (m9 a1 10)) a1 11)) a0 12 ((f_up (f_up m9 a0 10 (m9 a1 10)) a0 11 ((f_up m9 a0 10 (m9 a1 10)) a1 11)) a1 12)) a0 13 ((f_up (f_up (f_up m9 a0 10 (m9 a1 10)) a0 11 ((f_up m9 a0 10 (m9 a1 10)) a1 11)) a0 12 ((f_up (f_up m9 a0 10 (m9 a1 10)) a0 11 ((f_up m9 a0 10 (m9 a1 10)) a1 11)) a1 12)) a1 13)) a0 14 ((f_up (f_up (f_up (f_up m9 a0 10 (m9 a1 10)) a0 11 ((f_up m9 a0 10 (m9 a1 10)) a1 11)) a0 12 ((f_up (f_up m9 a0 10 (m9 a1 10)) a0 11 ((f_up m9 a0 10 (m9 a1 10)) a1 11)) a1 12)) a0 13 ((f_up (f_up (f_up m9 a0 10 (m9 a1 10)) a0 11 ((f_up m9 a0 10 (m9 a1 10)) a1 11)) a0 12 ((f_up (f_up m9 a0 10 (m9 a1 10)) a0 11 ((f_up m9 a0 10 (m9 a1 10)) a1 11)) a1 12)) a1 13)) a1 14))
set_option maxRecDepth 4000 in
def g_73  (σ : f_M) : Option (f_M) :=
  (f_ix 8 (((σ 44 1) + (σ 44 2)) - ((σ 44 1) + (σ 44 2)) / (8 : Int32) * (8 : Int32))).bind fun v1 =>
  (g_72 (46 + 7 * v1) 121 σ).bind fun t2 =>
  (
   if (8 : Int32) ≤ (t2 44 2) then (
    some (f_up t2 44 1 (((t2 44 1) + (1 : Int32)) - ((t2 44 1) + (1 : Int32)) / (8 : Int32) * (8 : Int32)))
   ) else (
    some (f_up t2 44 2 ((t2 44 2) + (1 : Int32)))
   )
  ).bind fun (t3 : f_M) =>
  some t3
set_option maxRecDepth 4000 in
def g_74 (a1 : Int32) (σ : f_M) : Option (Bool) :=
  (
   if (1000 : Int32) < ((σ 121 0) + a1) then (
    some false
   ) else (
    some true
   )
  ).bind fun (t1 : Bool) =>
  some t1
set_option maxRecDepth 4000 in
def g_75 (a1 : Int32) (σ : f_M) : Option (Int32) :=
  (f_rd σ 113 20 a1).bind fun v1 =>
  (f_rd σ 114 20 a1).bind fun v2 =>
  some (v1 + v2)
set_option maxRecDepth 4000 in
def g_76 (a1 : Nat) (a2 : Int32) (σ : f_M) : Option (Bool) :=
  (f_rd σ (a1 + 2) 20 a2).bind fun v1 =>
  (
   if ¬ v1 = 0 then (
    some false
   ) else (
    (g_75 a2 σ).bind fun t3 =>
    if t3 ≤ (σ a1 0) then (
     some false
    ) else (
     some true
    )
   )
  ).bind fun (t2 : Bool) =>
  some t2
set_option maxRecDepth 4000 in
def g_77 (a0 : Int32) (a1 : Int32) (σ : f_M) : Option (Int32) :=
  some (((a1 * a0) / (40 : Int32)) + (1 : Int32))
set_option maxRecDepth 4000 in
def g_78 (a0 : Int32) (a1 : Int32) (a2 : Int32) (σ : f_M) : Option (Int32) :=
  (
   if ((20 : Int32) + ((2 : Int32) * a2)) ≤ 0 then (
    some (1 : Int32)
   ) else (
    if ((20 : Int32) + ((2 : Int32) * a2)) = 0 then none else
    some (((a1 * a0) / ((20 : Int32) + ((2 : Int32) * a2))) + (1 : Int32))
   )
  ).bind fun (t1 : Int32) =>
  some t1
set_option maxRecDepth 4000 in
def g_79 (a1 : Int32) (σ : f_M) : Option (Int32) :=
  (f_rd σ 111 20 a1).bind fun v1 =>
  (
   if v1 = 0 then (
    (f_rd σ 114 20 a1).bind fun v3 =>
    (f_rd σ 115 20 a1).bind fun v4 =>
    (f_rd σ 118 20 a1).bind fun v5 =>
    (g_78 v3 v4 v5 σ).bind fun t6 =>
    some t6
   ) else (
    (f_rd σ 114 20 a1).bind fun v7 =>
    (f_rd σ 115 20 a1).bind fun v8 =>
    (g_77 v7 v8 σ).bind fun t9 =>
    some t9
   )
  ).bind fun (t2 : Int32) =>
  some t2
set_option maxRecDepth 4000 in
def g_80 (a0 : Nat) (a1 : Int32) (a2 : Int32) (σ : f_M) : Option (f_M) :=
  (f_rd σ (a0 + 1) 8 a1).bind fun v1 =>
  (f_wr σ (a0 + 1) 8 a1 (v1 - a2)).bind fun m2 =>
  some (f_up (f_up m2 a0 1 ((m2 a0 1) + a2)) a0 12 (((f_up m2 a0 1 ((m2 a0 1) + a2)) a0 12) + a2))
set_option maxRecDepth 4000 in
def g_81 (a1 : Nat) (a2 : Int32) (σ : f_M) : Option (f_M) :=
  (f_rd σ 112 20 a2).bind fun v1 =>
  (g_79 a2 σ).bind fun t2 =>
  (f_rd σ (a1 + 1) 8 v1).bind fun v3 =>
  (
   if v3 < t2 then (
    (f_wr σ (a1 + 2) 20 a2 (1 : Int32)).bind fun m5 =>
    some m5
   ) else (
    (g_80 a1 v1 t2 σ).bind fun t6 =>
    some t6
   )
  ).bind fun (t4 : f_M) =>
  some t4
set_option maxRecDepth 4000 in
def g_82 (a1 : Nat) (σ : f_M) : Option (f_M) :=
  if (σ a1 0) = 0 then (
   some σ
  ) else (
   if ((σ a1 0) - (σ a1 0) / (24 : Int32) * (24 : Int32)) = 0 then (
    (f_lp (fun (s1 : Int32 × f_M) =>
     if (s1.2 a1 3) ≤ s1.1 then (
      some (.inr s1.2)
     ) else (
      (g_76 a1 s1.1 s1.2).bind fun t2 =>
      (
       if t2 = false then (
        some s1.2
       ) else (
        (g_81 a1 s1.1 s1.2).bind fun t4 =>
        some t4
       )
      ).bind fun (t3 : f_M) =>
      some (.inl ((s1.1 + (1 : Int32)), t3))
     )
    ) f_F ((0 : Int32), σ)).bind fun (x1 : f_M) =>
    some x1
   ) else (
    some σ
   )
  )
set_option maxRecDepth 4000 in
def g_83 (a1 : Int32) (a2 : Int32) (σ : f_M) : Option (Bool) :=
  (f_rd σ 124 20 a1).bind fun v1 =>
  (
   if ¬ v1 = 0 then (
    some false
   ) else (
    (f_rd σ 120 20 a1).bind fun v3 =>
    if ¬ v3 = a2 then (
     some false
    ) else (
     some true
    )
   )
  ).bind fun (t2 : Bool) =>
  some t2
set_option maxRecDepth 4000 in
def g_84 (a1 : Int32) (σ : f_M) : Option (Int32) :=
  (f_lp (fun (s1 : Int32) =>
   if (σ 121 5) ≤ s1 then (
    some (.inr (-1 : Int32))
   ) else (
    (g_83 s1 a1 σ).bind fun t2 =>
    if t2 = false then (
     some (.inl (s1 + (1 : Int32)))
    ) else (
     some (.inr s1)
    )
   )
  ) f_F (0 : Int32)).bind fun (r1 : Int32) => some r1
set_option maxRecDepth 4000 in
def g_85 (a0 : Int32) (σ : f_M) : Option (Int32) :=
  some ((2 : Int32) + a0)
set_option maxRecDepth 4000 in
def g_86 (a1 : Int32) (a2 : Int32) (σ : f_M) : Option (Int32) :=
  (f_rd σ 114 20 a1).bind fun v1 =>
  (
   if v1 ≤ 0 then (
    some (0 : Int32)
   ) else (
    (f_rd σ 115 20 a1).bind fun v3 =>
    if v1 = 0 then none else
    some ((v3 * a2) / v1)
   )
  ).bind fun (t2 : Int32) =>
  some t2
set_option maxRecDepth 4000 in
def g_87 (a1 : Int32) (a2 : Int32) (σ : f_M) : Option (Int32) :=
  (f_rd σ 118 20 a1).bind fun v1 =>
  (f_rd σ 115 20 a1).bind fun v2 =>
  (f_rd σ 115 20 a1).bind fun v3 =>
  some (f_min v2 ((v3 * (f_max (0 : Int32) (a2 - v1))) / (10 : Int32)))
set_option maxRecDepth 4000 in
def g_88 (a1 : Int32) (a2 : Int32) (σ : f_M) : Option (Int32) :=
  (g_75 a1 σ).bind fun t1 =>
  (f_rd σ 113 20 a1).bind fun v2 =>
  (f_lp (fun (s3 : Int32 × Int32 × Int32) =>
   if (f_min a2 t1) ≤ s3.2.2 then (
    some (.inr (s3.1, s3.2.1))
   ) else (
    (f_rd σ 109 1000 s3.2.2).bind fun v4 =>
    (f_rd σ 116 20 a1).bind fun v5 =>
    (
     if v4 < v5 then (
      some (s3.1 + (1 : Int32))
     ) else (
      (f_rd σ 109 1000 s3.2.2).bind fun v7 =>
      (f_rd σ 117 20 a1).bind fun v8 =>
      if v7 ≤ v8 then (
       some s3.1
      ) else (
       some (s3.1 + (1 : Int32))
      )
     )
    ).bind fun (t6 : Int32) =>
    (f_rd σ 110 1000 s3.2.2).bind fun v11 =>
    some (.inl (t6, (s3.2.1 + v11), (s3.2.2 + (1 : Int32))))
   )
  ) f_F ((0 : Int32), (0 : Int32), v2)).bind fun (x3 : Int32 × Int32) =>
  (f_rd σ 111 20 a1).bind fun v13 =>
  (
   if v13 = 0 then (
    (g_87 a1 x3.2 σ).bind fun t15 =>
    some t15
   ) else (
    (g_86 a1 x3.1 σ).bind fun t16 =>
    some t16
   )
  ).bind fun (t14 : Int32) =>
  some t14
set_option maxRecDepth 4000 in
def g_89 (a1 : Int32) (a2 : Int32) (σ : f_M) : Option (f_M) :=
  (f_wr σ 126 20 a1 a2).bind fun m1 =>
  if ¬ a2 = 0 then (
   (f_wr m1 124 20 a1 (2 : Int32)).bind fun m2 =>
   (f_wr m2 127 20 (m2 121 10) a1).bind fun m3 =>
   some (f_up m3 121 10 ((m3 121 10) + (1 : Int32)))
  ) else (
   (f_wr m1 124 20 a1 (1 : Int32)).bind fun m4 =>
   some m4
  )
set_option maxRecDepth 4000 in
def g_90 (a1 : Int32) (a2 : Int32) (σ : f_M) : Option (Bool × f_M) :=
  (f_rd σ 125 20 a1).bind fun v1 =>
  (f_wr σ 125 20 a1 (v1 + (1 : Int32))).bind fun m2 =>
  (f_rd m2 125 20 a1).bind fun v3 =>
  (g_85 a2 m2).bind fun t4 =>
  if t4 ≤ v3 then (
   (f_rd m2 119 20 a1).bind fun v5 =>
   (g_88 v5 (m2 121 0) m2).bind fun t6 =>
   (g_89 a1 (t6 - (((t6 * (5 : Int32)) * a2) / (100 : Int32))) m2).bind fun t7 =>
   some (true, t7)
  ) else (
   some (false, m2)
  )
set_option maxRecDepth 4000 in
def g_91 (a1 : Int32) (σ : f_M) : Option (Int32) :=
  (f_rd σ 119 20 a1).bind fun v1 =>
  (f_rd σ 112 20 v1).bind fun v2 =>
  some v2
set_option maxRecDepth 4000 in
def g_92 (a1 : Int32) (a2 : Int32) (σ : f_M) : Option (f_M) :=
  (f_rd (f_up σ 121 1 ((σ 121 1) - a2)) 122 8 a1).bind fun v1 =>
  (f_wr (f_up σ 121 1 ((σ 121 1) - a2)) 122 8 a1 (v1 + a2)).bind fun m2 =>
  some (f_up m2 121 13 ((m2 121 13) + a2))
set_option maxRecDepth 4000 in
def g_93  (σ : f_M) : Option (f_M) :=
  (f_lp (fun (s1 : Int32 × f_M) =>
   if (s1.2 121 10) ≤ s1.1 then (
    some (.inr s1.2)
   ) else (
    (f_rd s1.2 127 20 s1.1).bind fun v2 =>
    (f_rd s1.2 126 20 v2).bind fun v3 =>
    if v3 ≤ (s1.2 121 1) then (
     (g_91 v2 s1.2).bind fun t4 =>
     (f_rd s1.2 126 20 v2).bind fun v5 =>
     (g_92 t4 v5 s1.2).bind fun t6 =>
     (f_wr t6 124 20 v2 (3 : Int32)).bind fun m7 =>
     some (.inl ((s1.1 + (1 : Int32)), (f_up m7 121 11 ((m7 121 11) + (1 : Int32)))))
    ) else (
     some (.inr s1.2)
    )
   )
  ) f_F ((σ 121 11), σ)).bind fun (r1 : f_M) => some r1
set_option maxRecDepth 4000 in
def g_94 (a1 : Int32) (a2 : Int32) (σ : f_M) : Option (Int32 × f_M) :=
  (g_82 121 σ).bind fun t1 =>
  (f_wr t1 109 1000 (t1 121 0) a1).bind fun m2 =>
  (f_wr m2 110 1000 (m2 121 0) a2).bind fun m3 =>
  (f_lp (fun (s4 : Int32 × Int32 × f_M) =>
   if (s4.2.2 103 4) ≤ s4.2.1 then (
    some (.inr (s4.1, s4.2.2))
   ) else (
    (g_84 s4.2.1 s4.2.2).bind fun t5 =>
    (
     if t5 = (-1 : Int32) then (
      some (s4.1, s4.2.2)
     ) else (
      (f_rd s4.2.2 107 3 s4.2.1).bind fun v7 =>
      (g_90 t5 v7 s4.2.2).bind fun t8 =>
      if t8.1 = false then (
       some (s4.1, t8.2)
      ) else (
       some ((s4.1 + (1 : Int32)), t8.2)
      )
     )
    ).bind fun (t6 : Int32 × f_M) =>
    some (.inl (t6.1, (s4.2.1 + (1 : Int32)), t6.2))
   )
  ) f_F ((0 : Int32), (0 : Int32), (f_up m3 121 0 ((m3 121 0) + (1 : Int32))))).bind fun (x4 : Int32 × f_M) =>
  (g_93  x4.2).bind fun t12 =>
  some (x4.1, t12)
set_option maxRecDepth 4000 in
def g_95 (a1 : Nat) (σ : f_M) : Option (Bool × f_M) :=
  (f_rd σ a1 7 (1 : Int32)).bind fun v1 =>
  (g_74 v1 σ).bind fun t2 =>
  if t2 = true then (
   (f_lp (fun (s3 : Int32 × f_M) =>
    (f_rd s3.2 a1 7 (1 : Int32)).bind fun v4 =>
    if v4 ≤ s3.1 then (
     some (.inr s3.2)
    ) else (
     (f_rd s3.2 a1 7 (2 : Int32)).bind fun v5 =>
     (f_rd s3.2 a1 7 (3 : Int32)).bind fun v6 =>
     (g_94 v5 v6 s3.2).bind fun t7 =>
     some (.inl ((s3.1 + (1 : Int32)), t7.2))
    )
   ) f_F ((0 : Int32), σ)).bind fun (x3 : f_M) =>
   some (true, x3)
  ) else (
   some (false, σ)
  )
set_option maxRecDepth 4000 in
def g_96 (a1 : Int32) (a2 : Int32) (σ : f_M) : Option (Bool) :=
  (
   if (20 : Int32) ≤ (σ 121 3) then (
    some false
   ) else (
    (f_rd σ 122 8 a1).bind fun v2 =>
    if v2 < a2 then (
     some false
    ) else (
     some true
    )
   )
  ).bind fun (t1 : Bool) =>
  some t1
set_option maxRecDepth 4000 in
def g_97  (σ : f_M) : Option (Int32 × f_M) :=
  (f_wr σ 123 20 (σ 121 3) (0 : Int32)).bind fun m1 =>
  some ((((f_up m1 121 3 ((m1 121 3) + (1 : Int32))) 121 3) - (1 : Int32)), (f_up m1 121 3 ((m1 121 3) + (1 : Int32))))
set_option maxRecDepth 4000 in
def g_98 (a1 : Int32) (a2 : Int32) (a3 : Int32) (a4 : Int32) (a5 : Int32) (σ : f_M) : Option (Int32 × f_M) :=
  (f_wr σ 112 20 a1 a2).bind fun m1 =>
  (f_wr m1 113 20 a1 a3).bind fun m2 =>
  (f_wr m2 114 20 a1 a4).bind fun m3 =>
  (f_wr m3 115 20 a1 a5).bind fun m4 =>
  (g_79 a1 m4).bind fun t5 =>
  (g_80 121 a2 t5 m4).bind fun t6 =>
  some (a1, t6)
set_option maxRecDepth 4000 in
def g_99 (a1 : Int32) (a2 : Int32) (a3 : Int32) (a4 : Int32) (a5 : Int32) (a6 : Int32) (σ : f_M) : Option (Int32 × f_M) :=
  (g_97  σ).bind fun t1 =>
  (f_wr t1.2 111 20 t1.1 (1 : Int32)).bind fun m2 =>
  (f_wr m2 116 20 t1.1 a5).bind fun m3 =>
  (f_wr m3 117 20 t1.1 a6).bind fun m4 =>
  (g_98 t1.1 a1 a2 a3 a4 m4).bind fun t5 =>
  some (t5.1, t5.2)
set_option maxRecDepth 4000 in
def g_100 (a1 : Nat) (σ : f_M) : Option (Bool × f_M) :=
  (f_rd σ a1 7 (2 : Int32)).bind fun v1 =>
  if v1 < (σ 121 0) then (
   some (false, σ)
  ) else (
   (f_rd σ a1 7 (1 : Int32)).bind fun v2 =>
   (f_rd σ a1 7 (3 : Int32)).bind fun v3 =>
   (f_rd σ a1 7 (4 : Int32)).bind fun v4 =>
   (g_77 v3 v4 σ).bind fun t5 =>
   (g_96 v2 t5 σ).bind fun t6 =>
   if t6 = true then (
    (f_rd σ a1 7 (1 : Int32)).bind fun v7 =>
    (f_rd σ a1 7 (2 : Int32)).bind fun v8 =>
    (f_rd σ a1 7 (3 : Int32)).bind fun v9 =>
    (f_rd σ a1 7 (4 : Int32)).bind fun v10 =>
    (f_rd σ a1 7 (5 : Int32)).bind fun v11 =>
    (f_rd σ a1 7 (6 : Int32)).bind fun v12 =>
    (g_99 v7 v8 v9 v10 v11 v12 σ).bind fun t13 =>
    some (true, t13.2)
   ) else (
    some (false, σ)
   )
  )
set_option maxRecDepth 4000 in
def g_101 (a1 : Int32) (a2 : Int32) (a3 : Int32) (a4 : Int32) (a5 : Int32) (σ : f_M) : Option (Int32 × f_M) :=
  (g_97  σ).bind fun t1 =>
  (f_wr t1.2 111 20 t1.1 (0 : Int32)).bind fun m2 =>
  (f_wr m2 118 20 t1.1 a5).bind fun m3 =>
  (g_98 t1.1 a1 a2 a3 a4 m3).bind fun t4 =>
  some (t4.1, t4.2)
set_option maxRecDepth 4000 in
def g_102 (a1 : Nat) (σ : f_M) : Option (Bool × f_M) :=
  (f_rd σ a1 7 (2 : Int32)).bind fun v1 =>
  if v1 < (σ 121 0) then (
   some (false, σ)
  ) else (
   (f_rd σ a1 7 (1 : Int32)).bind fun v2 =>
   (f_rd σ a1 7 (3 : Int32)).bind fun v3 =>
   (f_rd σ a1 7 (4 : Int32)).bind fun v4 =>
   (f_rd σ a1 7 (5 : Int32)).bind fun v5 =>
   (g_78 v3 v4 v5 σ).bind fun t6 =>
   (g_96 v2 t6 σ).bind fun t7 =>
   if t7 = true then (
    (f_rd σ a1 7 (1 : Int32)).bind fun v8 =>
    (f_rd σ a1 7 (2 : Int32)).bind fun v9 =>
    (f_rd σ a1 7 (3 : Int32)).bind fun v10 =>
    (f_rd σ a1 7 (4 : Int32)).bind fun v11 =>
    (f_rd σ a1 7 (5 : Int32)).bind fun v12 =>
    (g_101 v8 v9 v10 v11 v12 σ).bind fun t13 =>
    some (true, t13.2)
   ) else (
    some (false, σ)
   )
  )
set_option maxRecDepth 4000 in
def g_103 (a1 : Int32) (a2 : Int32) (σ : f_M) : Option (Bool) :=
  (f_rd σ 112 20 a1).bind fun v1 =>
  (f_rd σ 112 20 a2).bind fun v2 =>
  (
   if ¬ v1 = v2 then (
    some false
   ) else (
    (f_rd σ 111 20 a1).bind fun v4 =>
    (f_rd σ 111 20 a2).bind fun v5 =>
    if ¬ v4 = v5 then (
     some false
    ) else (
     (f_rd σ 113 20 a1).bind fun v6 =>
     (f_rd σ 113 20 a2).bind fun v7 =>
     if ¬ v6 = v7 then (
      some false
     ) else (
      some true
     )
    )
   )
  ).bind fun (t3 : Bool) =>
  some t3
set_option maxRecDepth 4000 in
def g_104 (a1 : Int32) (σ : f_M) : Option (Int32) :=
  (f_lp (fun (s1 : Int32 × Int32) =>
   if (σ 121 5) ≤ s1.2 then (
    some (.inr s1.1)
   ) else (
    (f_rd σ 119 20 s1.2).bind fun v2 =>
    if ¬ v2 = a1 then (
     (g_103 v2 a1 σ).bind fun t3 =>
     (
      if t3 = false then (
       some s1.1
      ) else (
       some (5 : Int32)
      )
     ).bind fun (t4 : Int32) =>
     some (.inl (t4, (s1.2 + (1 : Int32))))
    ) else (
     some (.inr (4 : Int32))
    )
   )
  ) f_F ((0 : Int32), (0 : Int32))).bind fun (r1 : Int32) => some r1
set_option maxRecDepth 4000 in
def g_105 (a1 : Int32) (σ : f_M) : Option (Int32) :=
  (g_75 a1 σ).bind fun t1 =>
  (f_rd σ 123 20 a1).bind fun v2 =>
  if v2 = 0 then (
   if t1 ≤ (σ 121 0) then (
    if (σ 121 0) ≤ (t1 + (72 : Int32)) then (
     (g_104 a1 σ).bind fun t3 =>
     some t3
    ) else (
     some (3 : Int32)
    )
   ) else (
    some (2 : Int32)
   )
  ) else (
   some (1 : Int32)
  )
set_option maxRecDepth 4000 in
def g_106 (a1 : Int32) (σ : f_M) : Option (Int32) :=
  (f_lp (fun (s1 : Int32 × Int32) =>
   if (σ 121 5) ≤ s1.2 then (
    some (.inr s1.1)
   ) else (
    (g_83 s1.2 a1 σ).bind fun t2 =>
    (
     if t2 = false then (
      some s1.1
     ) else (
      some (s1.1 + (1 : Int32))
     )
    ).bind fun (t3 : Int32) =>
    some (.inl (t3, (s1.2 + (1 : Int32))))
   )
  ) f_F ((0 : Int32), (0 : Int32))).bind fun (x1 : Int32) =>
  some x1
set_option maxRecDepth 4000 in
def g_107  (σ : f_M) : Option (Int32) :=
  (f_lp (fun (s1 : Int32 × Int32) =>
   if (σ 103 4) ≤ s1.2 then (
    some (.inr s1.1)
   ) else (
    (g_106 s1.2 σ).bind fun t2 =>
    (g_106 s1.1 σ).bind fun t3 =>
    (
     if t3 ≤ t2 then (
      some s1.1
     ) else (
      some s1.2
     )
    ).bind fun (t4 : Int32) =>
    some (.inl (t4, (s1.2 + (1 : Int32))))
   )
  ) f_F ((0 : Int32), (1 : Int32))).bind fun (x1 : Int32) =>
  some x1
set_option maxRecDepth 4000 in
def g_108  (σ : f_M) : Option (Int32 × f_M) :=
  (f_wr σ 124 20 (σ 121 5) (0 : Int32)).bind fun m1 =>
  (f_wr m1 125 20 (m1 121 5) (0 : Int32)).bind fun m2 =>
  (f_wr m2 126 20 (m2 121 5) (0 : Int32)).bind fun m3 =>
  some ((((f_up m3 121 5 ((m3 121 5) + (1 : Int32))) 121 5) - (1 : Int32)), (f_up m3 121 5 ((m3 121 5) + (1 : Int32))))
set_option maxRecDepth 4000 in
def g_109 (a1 : Int32) (σ : f_M) : Option (Int32 × f_M) :=
  (g_107  σ).bind fun t1 =>
  (g_108  σ).bind fun t2 =>
  (f_wr t2.2 119 20 t2.1 a1).bind fun m3 =>
  (f_wr m3 120 20 t2.1 t1).bind fun m4 =>
  some (t2.1, m4)
set_option maxRecDepth 4000 in
def g_110 (a1 : Int32) (σ : f_M) : Option (Bool × f_M) :=
  if (σ 121 3) ≤ a1 then (
   some (false, σ)
  ) else (
   (g_105 a1 σ).bind fun t1 =>
   if t1 = 0 then (
    (g_109 a1 σ).bind fun t2 =>
    some (true, t2.2)
   ) else (
    some (false, σ)
   )
  )
set_option maxRecDepth 4000 in
def g_111 (a1 : Int32) (a2 : Int32) (σ : f_M) : Option (Int32 × f_M) :=
  (f_rd σ 122 8 a1).bind fun v1 =>
  (f_wr σ 122 8 a1 (v1 + a2)).bind fun m2 =>
  (f_rd (f_up m2 121 14 ((m2 121 14) + a2)) 122 8 a1).bind fun v3 =>
  some (v3, (f_up m2 121 14 ((m2 121 14) + a2)))
set_option maxRecDepth 4000 in
def g_112 (a1 : Int32) (σ : f_M) : Option (Bool × f_M) :=
  (f_ix 30 a1).bind fun v1 =>
  (f_rd σ (12 + v1) 7 (0 : Int32)).bind fun v2 =>
  if v2 = (0 : Int32) then (
   (g_95 (12 + v1) σ).bind fun t3 =>
   some (t3.1, t3.2)
  ) else
  if v2 = (1 : Int32) then (
   (g_100 (12 + v1) σ).bind fun t5 =>
   some (t5.1, t5.2)
  ) else
  if v2 = (2 : Int32) then (
   (g_102 (12 + v1) σ).bind fun t7 =>
   some (t7.1, t7.2)
  ) else
  if v2 = (3 : Int32) then (
   (f_rd σ (12 + v1) 7 (1 : Int32)).bind fun v9 =>
   (g_110 v9 σ).bind fun t10 =>
   some (t10.1, t10.2)
  ) else
  (
   (f_rd σ (12 + v1) 7 (1 : Int32)).bind fun v12 =>
   (f_rd σ (12 + v1) 7 (2 : Int32)).bind fun v13 =>
   (g_111 v12 v13 σ).bind fun t14 =>
   some (true, t14.2)
  )
set_option maxRecDepth 4000 in
def g_113  (σ : f_M) : Option (Int32 × f_M) :=
  (g_9  σ).bind fun t1 =>
  (g_71  t1).bind fun t2 =>
  if t2.1 = true then (
   (g_73  t2.2).bind fun t3 =>
   (f_lp (fun (s4 : Int32 × f_M) =>
    if (s4.2 10 1) ≤ s4.1 then (
     some (.inr ((s4.2 10 1), s4.2))
    ) else (
     (g_112 s4.1 s4.2).bind fun t5 =>
     if t5.1 = true then (
      some (.inl ((s4.1 + (1 : Int32)), t5.2))
     ) else (
      some (.inr (s4.1, t5.2))
     )
    )
   ) f_F ((0 : Int32), t3)).bind fun (r4 : Int32 × f_M) => some r4
  ) else (
   some ((-1 : Int32), t2.2)
  )
set_option maxRecDepth 4000 in
def g_114  (σ : f_M) : Option (Int32) :=
  (g_53 5 σ).bind fun t1 =>
  if t1 = false then (
   (g_53 6 σ).bind fun t2 =>
   if t2 = false then (
    (g_53 7 σ).bind fun t3 =>
    if t3 = false then (
     (g_53 8 σ).bind fun t4 =>
     if t4 = false then (
      (g_53 9 σ).bind fun t5 =>
      (
       if t5 = false then (
        some (-1 : Int32)
       ) else (
        some (4 : Int32)
       )
      ).bind fun (t6 : Int32) =>
      some t6
     ) else (
      some (3 : Int32)
     )
    ) else (
     some (2 : Int32)
    )
   ) else (
    some (1 : Int32)
   )
  ) else (
   some (0 : Int32)
  )
set_option maxRecDepth 4000 in
def g_115  (σ : f_M) : Option (Int32 × f_M) :=
  (g_55  σ).bind fun t1 =>
  (
   if ¬ (t1 155 17) = 0 then (
    some (0 : Int32)
   ) else (
    (g_56  t1).bind fun t3 =>
    some t3
   )
  ).bind fun (t2 : Int32) =>
  (
   if t2 = (-1 : Int32) then (
    some false
   ) else (
    some true
   )
  ).bind fun (t5 : Bool) =>
  (g_54 t5 (3 : Int32) t1).bind fun t7 =>
  (g_51  t7).bind fun t8 =>
  some ((f_max (0 : Int32) t2), t8)
set_option maxRecDepth 4000 in
def g_116 (a1 : Int32) (σ : f_M) : Option (f_M) :=
  (g_115  σ).bind fun t1 =>
  (f_wr t1.2 162 210 (a1 + (1 : Int32)) t1.1).bind fun m2 =>
  (g_57 (0 : Int32) (1000 : Int32) m2).bind fun t3 =>
  (f_wr t3.2 162 210 (a1 + (2 : Int32)) t3.1).bind fun m4 =>
  (g_57 (1 : Int32) (24 : Int32) m4).bind fun t5 =>
  (f_wr t5.2 162 210 (a1 + (3 : Int32)) t5.1).bind fun m6 =>
  (g_57 (1 : Int32) (500 : Int32) m6).bind fun t7 =>
  (f_wr t7.2 162 210 (a1 + (4 : Int32)) t7.1).bind fun m8 =>
  (f_rd m8 162 210 a1).bind fun v9 =>
  (
   if ¬ v9 = (1 : Int32) then (
    (g_57 (0 : Int32) (50 : Int32) m8).bind fun t11 =>
    (f_wr t11.2 162 210 (a1 + (5 : Int32)) t11.1).bind fun m12 =>
    some m12
   ) else (
    (g_57 (0 : Int32) (150 : Int32) m8).bind fun t13 =>
    (f_wr t13.2 162 210 (a1 + (5 : Int32)) t13.1).bind fun m14 =>
    (f_rd m14 162 210 (a1 + (5 : Int32))).bind fun v15 =>
    (g_57 v15 (150 : Int32) m14).bind fun t16 =>
    (f_wr t16.2 162 210 (a1 + (6 : Int32)) t16.1).bind fun m17 =>
    some m17
   )
  ).bind fun (t10 : f_M) =>
  some t10
set_option maxRecDepth 4000 in
def g_117  (σ : f_M) : Option (f_M) :=
  (g_114  σ).bind fun t1 =>
  (
   if t1 = (-1 : Int32) then (
    some false
   ) else (
    some true
   )
  ).bind fun (t2 : Bool) =>
  (g_54 t2 (1 : Int32) σ).bind fun t4 =>
  (
   if (30 : Int32) ≤ (t4 155 20) then (
    some false
   ) else (
    some true
   )
  ).bind fun (t5 : Bool) =>
  (g_54 t5 (4 : Int32) t4).bind fun t7 =>
  (g_51  t7).bind fun t8 =>
  if (t8 155 17) ≤ 0 then (
   (f_wr t8 162 210 ((7 : Int32) * (t8 155 20)) t1).bind fun m9 =>
   (
    if t1 = (0 : Int32) then (
     (g_57 (1 : Int32) (48 : Int32) m9).bind fun t11 =>
     (f_wr t11.2 162 210 (((7 : Int32) * (t8 155 20)) + (1 : Int32)) t11.1).bind fun m12 =>
     (g_57 (0 : Int32) (150 : Int32) m12).bind fun t13 =>
     (f_wr t13.2 162 210 (((7 : Int32) * (t8 155 20)) + (2 : Int32)) t13.1).bind fun m14 =>
     (g_57 (0 : Int32) (50 : Int32) m14).bind fun t15 =>
     (f_wr t15.2 162 210 (((7 : Int32) * (t8 155 20)) + (3 : Int32)) t15.1).bind fun m16 =>
     some m16
    ) else
    if t1 = (1 : Int32) then (
     (g_116 ((7 : Int32) * (t8 155 20)) m9).bind fun t18 =>
     some t18
    ) else
    if t1 = (2 : Int32) then (
     (g_116 ((7 : Int32) * (t8 155 20)) m9).bind fun t20 =>
     some t20
    ) else
    if t1 = (3 : Int32) then (
     (g_57 (0 : Int32) (19 : Int32) m9).bind fun t22 =>
     (f_wr t22.2 162 210 (((7 : Int32) * (t8 155 20)) + (1 : Int32)) t22.1).bind fun m23 =>
     some m23
    ) else
    if t1 = (4 : Int32) then (
     (g_115  m9).bind fun t25 =>
     (f_wr t25.2 162 210 (((7 : Int32) * (t8 155 20)) + (1 : Int32)) t25.1).bind fun m26 =>
     (g_57 (1 : Int32) (999 : Int32) m26).bind fun t27 =>
     (f_wr t27.2 162 210 (((7 : Int32) * (t8 155 20)) + (2 : Int32)) t27.1).bind fun m28 =>
     some m28
    ) else
    (
     (g_116 ((7 : Int32) * (t8 155 20)) m9).bind fun t30 =>
     some t30
    )
   ).bind fun (t10 : f_M) =>
   (g_61  t10).bind fun t31 =>
   some (f_up t31 155 20 ((t31 155 20) + (1 : Int32)))
  ) else (
   some t8
  )
set_option maxRecDepth 4000 in
def g_118  (σ : f_M) : Option (f_M) :=
  (
   if ¬ (σ 155 4) = (8 : Int32) then (
    some σ
   ) else (
    (f_lp (fun (s2 : Int32 × f_M) =>
     if (19360 : Int32) ≤ s2.1 then (
      some (.inr s2.2)
     ) else (
      (f_rd s2.2 159 19360 s2.1).bind fun v3 =>
      (f_wr s2.2 159 19360 (s2.1 - (2420 : Int32)) v3).bind fun m4 =>
      some (.inl ((s2.1 + (1 : Int32)), m4))
     )
    ) f_F ((2420 : Int32), σ)).bind fun (x2 : f_M) =>
    some (f_up x2 155 4 ((x2 155 4) - (1 : Int32)))
   )
  ).bind fun (t1 : f_M) =>
  (f_lp (fun (s7 : Int32 × f_M) =>
   if (2420 : Int32) ≤ s7.1 then (
    some (.inr s7.2)
   ) else (
    (f_rd s7.2 156 2420 s7.1).bind fun v8 =>
    (f_wr s7.2 159 19360 (((2420 : Int32) * (s7.2 155 4)) + s7.1) v8).bind fun m9 =>
    some (.inl ((s7.1 + (1 : Int32)), m9))
   )
  ) f_F ((0 : Int32), t1)).bind fun (x7 : f_M) =>
  some (f_up x7 155 4 ((x7 155 4) + (1 : Int32)))
set_option maxRecDepth 4000 in
def g_119 (a0 : Int32) (σ : f_M) : Option (Int32) :=
  some ((100 : Int32) + ((10 : Int32) * a0))
set_option maxRecDepth 4000 in
def g_120 (a1 : Int32) (σ : f_M) : Option (Bool) :=
  (g_119 a1 σ).bind fun t1 =>
  (f_rd σ 156 2420 (t1 + (8 : Int32))).bind fun v2 =>
  (
   if ¬ v2 = (1 : Int32) then (
    some false
   ) else (
    some true
   )
  ).bind fun (t3 : Bool) =>
  some t3
set_option maxRecDepth 4000 in
def g_121 (a1 : Int32) (σ : f_M) : Option (Int32) :=
  (g_119 a1 σ).bind fun t1 =>
  (f_rd σ 156 2420 (t1 + (2 : Int32))).bind fun v2 =>
  (g_119 a1 σ).bind fun t3 =>
  (f_rd σ 156 2420 (t3 + (3 : Int32))).bind fun v4 =>
  some (v2 + v4)
set_option maxRecDepth 4000 in
def g_122 (a1 : Int32) (a2 : Int32) (σ : f_M) : Option (Bool) :=
  (g_120 a1 σ).bind fun t1 =>
  (
   if t1 = true then (
    some false
   ) else (
    (g_121 a1 σ).bind fun t3 =>
    if t3 ≤ a2 then (
     some false
    ) else (
     some true
    )
   )
  ).bind fun (t2 : Bool) =>
  some t2
set_option maxRecDepth 4000 in
def g_123 (a1 : Int32) (σ : f_M) : Option (Bool) :=
  (g_119 a1 σ).bind fun t1 =>
  (f_rd σ 156 2420 (t1 + (1 : Int32))).bind fun v2 =>
  (g_36 v2 σ).bind fun t3 =>
  (f_rd σ 156 2420 (t3 + (7 : Int32))).bind fun v4 =>
  (g_119 a1 σ).bind fun t5 =>
  (f_rd σ 156 2420 (t5 + (7 : Int32))).bind fun v6 =>
  (
   if v4 < v6 then (
    some false
   ) else (
    some true
   )
  ).bind fun (t7 : Bool) =>
  some t7
set_option maxRecDepth 4000 in
def g_124 (a1 : Int32) (σ : f_M) : Option (f_M) :=
  (g_119 a1 σ).bind fun t1 =>
  (f_rd σ 156 2420 (t1 + (7 : Int32))).bind fun v2 =>
  (g_119 a1 σ).bind fun t3 =>
  (f_rd σ 156 2420 (t3 + (1 : Int32))).bind fun v4 =>
  (g_36 v4 σ).bind fun t5 =>
  (f_rd σ 156 2420 (t5 + (7 : Int32))).bind fun v6 =>
  (f_wr σ 156 2420 (t5 + (7 : Int32)) (v6 - v2)).bind fun m7 =>
  (f_rd m7 156 2420 (1 : Int32)).bind fun v8 =>
  (f_wr m7 156 2420 (1 : Int32) (v8 + v2)).bind fun m9 =>
  (f_rd m9 156 2420 (6 : Int32)).bind fun v10 =>
  (f_wr m9 156 2420 (6 : Int32) (v10 + v2)).bind fun m11 =>
  some m11
set_option maxRecDepth 4000 in
def g_125  (σ : f_M) : Option (f_M) :=
  (f_lp (fun (s1 : Int32 × f_M) =>
   (f_rd s1.2 156 2420 (4 : Int32)).bind fun v2 =>
   if v2 ≤ s1.1 then (
    some (.inr s1.2)
   ) else (
    (f_rd s1.2 156 2420 (0 : Int32)).bind fun v3 =>
    (g_122 s1.1 v3 s1.2).bind fun t4 =>
    (
     if t4 = true then (
      (g_123 s1.1 s1.2).bind fun t6 =>
      if t6 = false then (
       (g_119 s1.1 s1.2).bind fun t7 =>
       (f_wr s1.2 156 2420 (t7 + (8 : Int32)) (1 : Int32)).bind fun m8 =>
       some m8
      ) else (
       (g_124 s1.1 s1.2).bind fun t9 =>
       some t9
      )
     ) else (
      some s1.2
     )
    ).bind fun (t5 : f_M) =>
    some (.inl ((s1.1 + (1 : Int32)), t5))
   )
  ) f_F ((0 : Int32), σ)).bind fun (x1 : f_M) =>
  some x1
set_option maxRecDepth 4000 in
def g_126 (a0 : Int32) (σ : f_M) : Option (Int32) :=
  some ((300 : Int32) + ((6 : Int32) * a0))
set_option maxRecDepth 4000 in
def g_127 (a1 : Int32) (a2 : Int32) (σ : f_M) : Option (Bool) :=
  (g_126 a1 σ).bind fun t1 =>
  (f_rd σ 156 2420 (t1 + (3 : Int32))).bind fun v2 =>
  (
   if ¬ v2 = 0 then (
    some false
   ) else (
    (g_126 a1 σ).bind fun t4 =>
    (f_rd σ 156 2420 (t4 + (1 : Int32))).bind fun v5 =>
    if ¬ v5 = a2 then (
     some false
    ) else (
     some true
    )
   )
  ).bind fun (t3 : Bool) =>
  some t3
set_option maxRecDepth 4000 in
def g_128 (a1 : Int32) (σ : f_M) : Option (Int32) :=
  (f_lp (fun (s1 : Int32) =>
   (f_rd σ 156 2420 (5 : Int32)).bind fun v2 =>
   if v2 ≤ s1 then (
    some (.inr (-1 : Int32))
   ) else (
    (g_127 s1 a1 σ).bind fun t3 =>
    if t3 = false then (
     some (.inl (s1 + (1 : Int32)))
    ) else (
     some (.inr s1)
    )
   )
  ) f_F (0 : Int32)).bind fun (r1 : Int32) => some r1
set_option maxRecDepth 4000 in
def g_129 (a1 : Int32) (σ : f_M) : Option (Int32) :=
  (f_rd σ 156 2420 ((95 : Int32) + a1)).bind fun v1 =>
  some ((2 : Int32) + v1)
set_option maxRecDepth 4000 in
def g_130 (a1 : Int32) (σ : f_M) : Option (Int32) :=
  (f_rd σ 156 2420 (0 : Int32)).bind fun v1 =>
  (g_121 a1 σ).bind fun t2 =>
  some (f_min v1 t2)
set_option maxRecDepth 4000 in
def g_131 (a0 : Bool) (σ : f_M) : Option (Int32) :=
  (
   if a0 = false then (
    some false
   ) else (
    some true
   )
  ).bind fun (t1 : Bool) =>
  some (f_b t1)
set_option maxRecDepth 4000 in
def g_132 (a1 : Int32) (σ : f_M) : Option (Int32) :=
  (g_119 a1 σ).bind fun t1 =>
  (f_rd σ 156 2420 (t1 + (2 : Int32))).bind fun v2 =>
  (f_lp (fun (s3 : Int32 × Int32) =>
   (g_130 a1 σ).bind fun t4 =>
   if t4 ≤ s3.2 then (
    some (.inr s3.1)
   ) else (
    (f_rd σ 156 2420 ((420 : Int32) + s3.2)).bind fun v5 =>
    (f_rd σ 156 2420 (t1 + (5 : Int32))).bind fun v6 =>
    (f_rd σ 156 2420 (t1 + (6 : Int32))).bind fun v7 =>
    (g_46 (v5).toInt64 (v6).toInt64 (v7).toInt64 σ).bind fun t8 =>
    (
     if t8 = true then (
      some false
     ) else (
      some true
     )
    ).bind fun (t9 : Bool) =>
    (g_131 t9 σ).bind fun t11 =>
    some (.inl ((s3.1 + t11), (s3.2 + (1 : Int32))))
   )
  ) f_F ((0 : Int32), v2)).bind fun (x3 : Int32) =>
  some x3
set_option maxRecDepth 4000 in
def g_133 (a1 : Int32) (σ : f_M) : Option (Int32) :=
  (g_119 a1 σ).bind fun t1 =>
  (f_rd σ 156 2420 (t1 + (2 : Int32))).bind fun v2 =>
  (f_lp (fun (s3 : Int32 × Int32) =>
   (g_130 a1 σ).bind fun t4 =>
   if t4 ≤ s3.2 then (
    some (.inr s3.1)
   ) else (
    (f_rd σ 156 2420 ((1420 : Int32) + s3.2)).bind fun v5 =>
    some (.inl ((s3.1 + v5), (s3.2 + (1 : Int32))))
   )
  ) f_F ((0 : Int32), v2)).bind fun (x3 : Int32) =>
  some x3
set_option maxRecDepth 4000 in
def g_134 (a1 : Int32) (σ : f_M) : Option (Int32) :=
  (g_119 a1 σ).bind fun t1 =>
  (f_rd σ 156 2420 (t1 + (0 : Int32))).bind fun v2 =>
  if ¬ v2 = 0 then (
   (g_133 a1 σ).bind fun t3 =>
   (f_rd σ 156 2420 (t1 + (5 : Int32))).bind fun v4 =>
   (f_rd σ 156 2420 (t1 + (4 : Int32))).bind fun v5 =>
   (f_rd σ 156 2420 (t1 + (4 : Int32))).bind fun v6 =>
   some (f_min v5 ((v6 * (f_max (0 : Int32) (t3 - v4))) / (10 : Int32)))
  ) else (
   (f_rd σ 156 2420 (t1 + (4 : Int32))).bind fun v7 =>
   (g_132 a1 σ).bind fun t8 =>
   (f_rd σ 156 2420 (t1 + (3 : Int32))).bind fun v9 =>
   if v9 = 0 then none else
   some ((v7 * t8) / v9)
  )
set_option maxRecDepth 4000 in
def g_135 (a1 : Int32) (σ : f_M) : Option (f_M) :=
  (g_126 a1 σ).bind fun t1 =>
  (f_rd σ 156 2420 (t1 + (0 : Int32))).bind fun v2 =>
  (g_134 v2 σ).bind fun t3 =>
  (g_126 a1 σ).bind fun t4 =>
  (f_rd σ 156 2420 (t4 + (1 : Int32))).bind fun v5 =>
  (f_rd σ 156 2420 ((95 : Int32) + v5)).bind fun v6 =>
  (f_rd σ 156 2420 (10 : Int32)).bind fun v7 =>
  (f_wr σ 156 2420 (10 : Int32) (v7 + (1 : Int32))).bind fun m8 =>
  (g_126 a1 m8).bind fun t9 =>
  (f_rd m8 156 2420 (10 : Int32)).bind fun v10 =>
  (f_wr m8 156 2420 (t9 + (5 : Int32)) v10).bind fun m11 =>
  (g_126 a1 m11).bind fun t12 =>
  (f_wr m11 156 2420 (t12 + (4 : Int32)) (t3 - (((t3 * (5 : Int32)) * v6) / (100 : Int32)))).bind fun m13 =>
  (g_126 a1 m13).bind fun t14 =>
  (
   if ¬ (t3 - (((t3 * (5 : Int32)) * v6) / (100 : Int32))) = 0 then (
    some (2 : Int32)
   ) else (
    some (1 : Int32)
   )
  ).bind fun (t15 : Int32) =>
  (f_wr m13 156 2420 (t14 + (3 : Int32)) t15).bind fun m17 =>
  some m17
set_option maxRecDepth 4000 in
def g_136 (a1 : Int32) (σ : f_M) : Option (f_M) :=
  (g_128 a1 σ).bind fun t1 =>
  if ¬ t1 = (-1 : Int32) then (
   (g_126 t1 σ).bind fun t2 =>
   (f_rd σ 156 2420 (t2 + (2 : Int32))).bind fun v3 =>
   (f_wr σ 156 2420 (t2 + (2 : Int32)) (v3 + (1 : Int32))).bind fun m4 =>
   (g_126 t1 m4).bind fun t5 =>
   (f_rd m4 156 2420 (t5 + (2 : Int32))).bind fun v6 =>
   (g_129 a1 m4).bind fun t7 =>
   (
    if ¬ v6 = t7 then (
     some m4
    ) else (
     (g_135 t1 m4).bind fun t9 =>
     some t9
    )
   ).bind fun (t8 : f_M) =>
   some t8
  ) else (
   some σ
  )
set_option maxRecDepth 4000 in
def g_137  (σ : f_M) : Option (Int32) :=
  (f_lp (fun (s1 : Int32 × Int32) =>
   (f_rd σ 156 2420 (5 : Int32)).bind fun v2 =>
   if v2 ≤ s1.2 then (
    some (.inr s1.1)
   ) else (
    (g_126 s1.2 σ).bind fun t3 =>
    (f_rd σ 156 2420 (t3 + (3 : Int32))).bind fun v4 =>
    (
     if ¬ v4 = (2 : Int32) then (
      some false
     ) else (
      some true
     )
    ).bind fun (t5 : Bool) =>
    (
     if t5 = false then (
      some s1.1
     ) else (
      if s1.1 = (-1 : Int32) then (
       some s1.2
      ) else (
       (g_126 s1.2 σ).bind fun t8 =>
       (f_rd σ 156 2420 (t8 + (5 : Int32))).bind fun v9 =>
       (g_126 s1.1 σ).bind fun t10 =>
       (f_rd σ 156 2420 (t10 + (5 : Int32))).bind fun v11 =>
       if v11 ≤ v9 then (
        some s1.1
       ) else (
        some s1.2
       )
      )
     )
    ).bind fun (t7 : Int32) =>
    some (.inl (t7, (s1.2 + (1 : Int32))))
   )
  ) f_F ((-1 : Int32), (0 : Int32))).bind fun (x1 : Int32) =>
  some x1
set_option maxRecDepth 4000 in
def g_138 (a1 : Int32) (σ : f_M) : Option (f_M) :=
  (g_126 a1 σ).bind fun t1 =>
  (f_rd σ 156 2420 (t1 + (4 : Int32))).bind fun v2 =>
  (g_126 a1 σ).bind fun t3 =>
  (f_rd σ 156 2420 (t3 + (0 : Int32))).bind fun v4 =>
  (g_119 v4 σ).bind fun t5 =>
  (f_rd σ 156 2420 (t5 + (1 : Int32))).bind fun v6 =>
  (f_rd σ 156 2420 (1 : Int32)).bind fun v7 =>
  (f_wr σ 156 2420 (1 : Int32) (v7 - v2)).bind fun m8 =>
  (g_36 v6 m8).bind fun t9 =>
  (f_rd m8 156 2420 (t9 + (7 : Int32))).bind fun v10 =>
  (f_wr m8 156 2420 (t9 + (7 : Int32)) (v10 + v2)).bind fun m11 =>
  (g_36 v6 m11).bind fun t12 =>
  (f_rd m11 156 2420 (t12 + (8 : Int32))).bind fun v13 =>
  (f_wr m11 156 2420 (t12 + (8 : Int32)) (v13 + v2)).bind fun m14 =>
  (f_rd m14 156 2420 (7 : Int32)).bind fun v15 =>
  (f_wr m14 156 2420 (7 : Int32) (v15 + v2)).bind fun m16 =>
  (g_126 a1 m16).bind fun t17 =>
  (f_wr m16 156 2420 (t17 + (3 : Int32)) (3 : Int32)).bind fun m18 =>
  some m18
set_option maxRecDepth 4000 in
def g_139  (σ : f_M) : Option (f_M) :=
  (g_137  σ).bind fun t1 =>
  (f_lp (fun (s2 : Int32 × f_M) =>
   if s2.1 = (-1 : Int32) then (
    some (.inr s2.2)
   ) else (
    (f_rd s2.2 156 2420 (1 : Int32)).bind fun v3 =>
    (g_126 s2.1 s2.2).bind fun t4 =>
    (f_rd s2.2 156 2420 (t4 + (4 : Int32))).bind fun v5 =>
    if v3 < v5 then (
     some (.inr s2.2)
    ) else (
     (g_138 s2.1 s2.2).bind fun t6 =>
     (g_137  t6).bind fun t7 =>
     some (.inl (t7, t6))
    )
   )
  ) f_F (t1, σ)).bind fun (x2 : f_M) =>
  some x2
set_option maxRecDepth 4000 in
def g_140 (a1 : Int32) (a2 : Int32) (σ : f_M) : Option (Int32 × f_M) :=
  (f_rd σ 156 2420 (0 : Int32)).bind fun v1 =>
  (
   if v1 ≤ 0 then (
    some σ
   ) else (
    (f_rd σ 156 2420 (0 : Int32)).bind fun v3 =>
    if ¬ (v3 - v3 / (24 : Int32) * (24 : Int32)) = 0 then (
     some σ
    ) else (
     (g_125  σ).bind fun t4 =>
     some t4
    )
   )
  ).bind fun (t2 : f_M) =>
  (f_rd t2 156 2420 (0 : Int32)).bind fun v7 =>
  (f_wr t2 156 2420 ((420 : Int32) + v7) a1).bind fun m8 =>
  (f_rd m8 156 2420 (0 : Int32)).bind fun v9 =>
  (f_wr m8 156 2420 ((1420 : Int32) + v9) a2).bind fun m10 =>
  (f_rd m10 156 2420 (0 : Int32)).bind fun v11 =>
  (f_wr m10 156 2420 (0 : Int32) (v11 + (1 : Int32))).bind fun m12 =>
  (f_rd m12 156 2420 (10 : Int32)).bind fun v13 =>
  (f_lp (fun (s14 : Int32 × f_M) =>
   (f_rd s14.2 156 2420 (3 : Int32)).bind fun v15 =>
   if v15 ≤ s14.1 then (
    some (.inr s14.2)
   ) else (
    (g_136 s14.1 s14.2).bind fun t16 =>
    some (.inl ((s14.1 + (1 : Int32)), t16))
   )
  ) f_F ((0 : Int32), m12)).bind fun (x14 : f_M) =>
  (g_139  x14).bind fun t18 =>
  (f_rd t18 156 2420 (10 : Int32)).bind fun v19 =>
  some ((v19 - v13), t18)
set_option maxRecDepth 4000 in
def g_141 (a1 : Int32) (σ : f_M) : Option (Bool × f_M) :=
  (f_rd σ 156 2420 (0 : Int32)).bind fun v1 =>
  (f_rd σ 162 210 (a1 + (1 : Int32))).bind fun v2 =>
  if (v1 + v2) ≤ (1000 : Int32) then (
   (f_lp (fun (s3 : Int32 × f_M) =>
    (f_rd s3.2 162 210 (a1 + (1 : Int32))).bind fun v4 =>
    if v4 ≤ s3.1 then (
     some (.inr s3.2)
    ) else (
     (f_rd s3.2 162 210 (a1 + (2 : Int32))).bind fun v5 =>
     (f_rd s3.2 162 210 (a1 + (3 : Int32))).bind fun v6 =>
     (g_140 v5 v6 s3.2).bind fun t7 =>
     some (.inl ((s3.1 + (1 : Int32)), t7.2))
    )
   ) f_F ((0 : Int32), σ)).bind fun (x3 : f_M) =>
   some (true, x3)
  ) else (
   some (false, σ)
  )
set_option maxRecDepth 4000 in
def g_142 (a1 : Int32) (σ : f_M) : Option (Bool) :=
  (f_rd σ 156 2420 (4 : Int32)).bind fun v1 =>
  (g_46 (a1).toInt64 (0 : Int64) ((v1 - (1 : Int32))).toInt64 σ).bind fun t2 =>
  some t2
set_option maxRecDepth 4000 in
def g_143 (a1 : Int32) (a2 : Int32) (σ : f_M) : Option (Bool) :=
  (g_119 a1 σ).bind fun t1 =>
  (f_rd σ 156 2420 (t1 + (0 : Int32))).bind fun v2 =>
  (g_119 a2 σ).bind fun t3 =>
  (f_rd σ 156 2420 (t3 + (0 : Int32))).bind fun v4 =>
  (
   if ¬ v2 = v4 then (
    some false
   ) else (
    (g_119 a1 σ).bind fun t6 =>
    (f_rd σ 156 2420 (t6 + (2 : Int32))).bind fun v7 =>
    (g_119 a2 σ).bind fun t8 =>
    (f_rd σ 156 2420 (t8 + (2 : Int32))).bind fun v9 =>
    if ¬ v7 = v9 then (
     some false
    ) else (
     some true
    )
   )
  ).bind fun (t5 : Bool) =>
  (
   if t5 = false then (
    some false
   ) else (
    (g_119 a1 σ).bind fun t13 =>
    (f_rd σ 156 2420 (t13 + (1 : Int32))).bind fun v14 =>
    (g_119 a2 σ).bind fun t15 =>
    (f_rd σ 156 2420 (t15 + (1 : Int32))).bind fun v16 =>
    if ¬ v14 = v16 then (
     some false
    ) else (
     some true
    )
   )
  ).bind fun (t12 : Bool) =>
  some t12
set_option maxRecDepth 4000 in
def g_144 (a1 : Int32) (σ : f_M) : Option (Bool) :=
  (f_lp (fun (s1 : Int32) =>
   (f_rd σ 156 2420 (4 : Int32)).bind fun v2 =>
   if v2 ≤ s1 then (
    some (.inr false)
   ) else (
    (g_119 s1 σ).bind fun t3 =>
    (f_rd σ 156 2420 (t3 + (9 : Int32))).bind fun v4 =>
    if ¬ v4 = (1 : Int32) then (
     some (.inl (s1 + (1 : Int32)))
    ) else (
     (g_143 a1 s1 σ).bind fun t5 =>
     if t5 = false then (
      some (.inl (s1 + (1 : Int32)))
     ) else (
      some (.inr true)
     )
    )
   )
  ) f_F (0 : Int32)).bind fun (r1 : Bool) => some r1
set_option maxRecDepth 4000 in
def g_145 (a1 : Int32) (σ : f_M) : Option (Int32) :=
  (g_120 a1 σ).bind fun t1 =>
  if t1 = false then (
   (f_rd σ 156 2420 (0 : Int32)).bind fun v2 =>
   (g_121 a1 σ).bind fun t3 =>
   if t3 ≤ v2 then (
    (f_rd σ 156 2420 (0 : Int32)).bind fun v4 =>
    (g_121 a1 σ).bind fun t5 =>
    if v4 ≤ (t5 + (72 : Int32)) then (
     (g_119 a1 σ).bind fun t6 =>
     (f_rd σ 156 2420 (t6 + (9 : Int32))).bind fun v7 =>
     if ¬ v7 = (1 : Int32) then (
      (g_144 a1 σ).bind fun t8 =>
      (
       if t8 = false then (
        some (0 : Int32)
       ) else (
        some (5 : Int32)
       )
      ).bind fun (t9 : Int32) =>
      some t9
     ) else (
      some (4 : Int32)
     )
    ) else (
     some (3 : Int32)
    )
   ) else (
    some (2 : Int32)
   )
  ) else (
   some (1 : Int32)
  )
set_option maxRecDepth 4000 in
def g_146 (a1 : Int32) (σ : f_M) : Option (Int32) :=
  (f_lp (fun (s1 : Int32 × Int32) =>
   (f_rd σ 156 2420 (5 : Int32)).bind fun v2 =>
   if v2 ≤ s1.2 then (
    some (.inr s1.1)
   ) else (
    (g_127 s1.2 a1 σ).bind fun t3 =>
    (g_131 t3 σ).bind fun t4 =>
    some (.inl ((s1.1 + t4), (s1.2 + (1 : Int32))))
   )
  ) f_F ((0 : Int32), (0 : Int32))).bind fun (x1 : Int32) =>
  some x1
set_option maxRecDepth 4000 in
def g_147  (σ : f_M) : Option (Int32) :=
  (f_lp (fun (s1 : Int32 × Int32) =>
   (f_rd σ 156 2420 (3 : Int32)).bind fun v2 =>
   if v2 ≤ s1.2 then (
    some (.inr s1.1)
   ) else (
    (g_146 s1.2 σ).bind fun t3 =>
    (g_146 s1.1 σ).bind fun t4 =>
    (
     if t4 ≤ t3 then (
      some s1.1
     ) else (
      some s1.2
     )
    ).bind fun (t5 : Int32) =>
    some (.inl (t5, (s1.2 + (1 : Int32))))
   )
  ) f_F ((0 : Int32), (1 : Int32))).bind fun (x1 : Int32) =>
  some x1
set_option maxRecDepth 4000 in
def g_148 (a1 : Int32) (σ : f_M) : Option (Int32 × f_M) :=
  (f_rd σ 156 2420 (5 : Int32)).bind fun v1 =>
  (g_147  σ).bind fun t2 =>
  (f_lp (fun (s3 : Int32 × f_M) =>
   if (6 : Int32) ≤ s3.1 then (
    some (.inr s3.2)
   ) else (
    (g_126 v1 s3.2).bind fun t4 =>
    (f_wr s3.2 156 2420 (t4 + s3.1) (0 : Int32)).bind fun m5 =>
    some (.inl ((s3.1 + (1 : Int32)), m5))
   )
  ) f_F ((0 : Int32), σ)).bind fun (x3 : f_M) =>
  (g_126 v1 x3).bind fun t7 =>
  (f_wr x3 156 2420 (t7 + (0 : Int32)) a1).bind fun m8 =>
  (g_126 v1 m8).bind fun t9 =>
  (f_wr m8 156 2420 (t9 + (1 : Int32)) t2).bind fun m10 =>
  (g_119 a1 m10).bind fun t11 =>
  (f_wr m10 156 2420 (t11 + (9 : Int32)) (1 : Int32)).bind fun m12 =>
  (f_rd m12 156 2420 (5 : Int32)).bind fun v13 =>
  (f_wr m12 156 2420 (5 : Int32) (v13 + (1 : Int32))).bind fun m14 =>
  some (v1, m14)
set_option maxRecDepth 4000 in
def g_149 (a1 : Int32) (a2 : Int32) (σ : f_M) : Option (Int32 × f_M) :=
  (g_36 a1 σ).bind fun t1 =>
  (f_rd σ 156 2420 (t1 + (7 : Int32))).bind fun v2 =>
  (f_wr σ 156 2420 (t1 + (7 : Int32)) (v2 + a2)).bind fun m3 =>
  (f_rd m3 156 2420 (8 : Int32)).bind fun v4 =>
  (f_wr m3 156 2420 (8 : Int32) (v4 + a2)).bind fun m5 =>
  (g_36 a1 m5).bind fun t6 =>
  (f_rd m5 156 2420 (t6 + (7 : Int32))).bind fun v7 =>
  some (v7, m5)
set_option maxRecDepth 4000 in
def g_150 (a0 : Int32) (a1 : Int32) (σ : f_M) : Option (Int32) :=
  some (((a1 * a0) / (40 : Int32)) + (1 : Int32))
set_option maxRecDepth 4000 in
def g_151 (a0 : Int32) (a1 : Int32) (a2 : Int32) (σ : f_M) : Option (Int32) :=
  if ((20 : Int32) + ((2 : Int32) * a2)) = 0 then none else
  some (((a1 * a0) / ((20 : Int32) + ((2 : Int32) * a2))) + (1 : Int32))
set_option maxRecDepth 4000 in
def g_152 (a1 : Int32) (a2 : Int32) (σ : f_M) : Option (Bool) :=
  (f_rd σ 156 2420 (4 : Int32)).bind fun v1 =>
  (
   if (20 : Int32) ≤ v1 then (
    some false
   ) else (
    (g_36 a1 σ).bind fun t3 =>
    (f_rd σ 156 2420 (t3 + (7 : Int32))).bind fun v4 =>
    if v4 < a2 then (
     some false
    ) else (
     some true
    )
   )
  ).bind fun (t2 : Bool) =>
  some t2
set_option maxRecDepth 4000 in
def g_153 (a1 : Int32) (a2 : Int32) (a3 : Int32) (a4 : Int32) (a5 : Int32) (σ : f_M) : Option (f_M) :=
  (f_rd σ 156 2420 (4 : Int32)).bind fun v1 =>
  (g_119 v1 σ).bind fun t2 =>
  (f_lp (fun (s3 : Int32 × f_M) =>
   if (10 : Int32) ≤ s3.1 then (
    some (.inr s3.2)
   ) else (
    (f_wr s3.2 156 2420 (t2 + s3.1) (0 : Int32)).bind fun m4 =>
    some (.inl ((s3.1 + (1 : Int32)), m4))
   )
  ) f_F ((0 : Int32), σ)).bind fun (x3 : f_M) =>
  (f_wr x3 156 2420 (t2 + (0 : Int32)) a1).bind fun m6 =>
  (f_wr m6 156 2420 (t2 + (1 : Int32)) a2).bind fun m7 =>
  (f_wr m7 156 2420 (t2 + (2 : Int32)) a3).bind fun m8 =>
  (f_wr m8 156 2420 (t2 + (3 : Int32)) a4).bind fun m9 =>
  (f_wr m9 156 2420 (t2 + (4 : Int32)) a5).bind fun m10 =>
  some m10
set_option maxRecDepth 4000 in
def g_154 (a1 : Int32) (a2 : Int32) (a3 : Int32) (a4 : Int32) (a5 : Int32) (a6 : Int32) (σ : f_M) : Option (f_M) :=
  (g_153 (0 : Int32) a1 a2 a3 a4 σ).bind fun t1 =>
  (f_rd t1 156 2420 (4 : Int32)).bind fun v2 =>
  (g_119 v2 t1).bind fun t3 =>
  (f_wr t1 156 2420 (t3 + (5 : Int32)) a5).bind fun m4 =>
  (f_wr m4 156 2420 (t3 + (6 : Int32)) a6).bind fun m5 =>
  (g_150 a3 a4 m5).bind fun t6 =>
  (f_wr m5 156 2420 (t3 + (7 : Int32)) t6).bind fun m7 =>
  some m7
set_option maxRecDepth 4000 in
def g_155 (a1 : Int32) (a2 : Int32) (a3 : Int32) (a4 : Int32) (a5 : Int32) (σ : f_M) : Option (f_M) :=
  (g_153 (1 : Int32) a1 a2 a3 a4 σ).bind fun t1 =>
  (f_rd t1 156 2420 (4 : Int32)).bind fun v2 =>
  (g_119 v2 t1).bind fun t3 =>
  (f_wr t1 156 2420 (t3 + (5 : Int32)) a5).bind fun m4 =>
  (g_151 a3 a4 a5 m4).bind fun t5 =>
  (f_wr m4 156 2420 (t3 + (7 : Int32)) t5).bind fun m6 =>
  some m6
set_option maxRecDepth 4000 in
def g_156  (σ : f_M) : Option (Int32 × f_M) :=
  (f_rd σ 156 2420 (4 : Int32)).bind fun v1 =>
  (f_rd σ 156 2420 (4 : Int32)).bind fun v2 =>
  (f_wr σ 156 2420 (4 : Int32) (v2 + (1 : Int32))).bind fun m3 =>
  (g_124 v1 m3).bind fun t4 =>
  some (v1, t4)
set_option maxRecDepth 4000 in
def g_157 (a1 : Int32) (σ : f_M) : Option (Bool × f_M) :=
  (f_rd σ 162 210 (a1 + (1 : Int32))).bind fun v1 =>
  (f_rd σ 162 210 (a1 + (2 : Int32))).bind fun v2 =>
  (f_rd σ 162 210 (a1 + (3 : Int32))).bind fun v3 =>
  (f_rd σ 162 210 (a1 + (4 : Int32))).bind fun v4 =>
  (f_rd σ 162 210 a1).bind fun v5 =>
  (
   if ¬ v5 = (1 : Int32) then (
    some false
   ) else (
    some true
   )
  ).bind fun (t6 : Bool) =>
  (
   if t6 = false then (
    (f_rd σ 162 210 (a1 + (5 : Int32))).bind fun v9 =>
    (g_151 v3 v4 v9 σ).bind fun t10 =>
    some t10
   ) else (
    (g_150 v3 v4 σ).bind fun t11 =>
    some t11
   )
  ).bind fun (t8 : Int32) =>
  (f_rd σ 156 2420 (0 : Int32)).bind fun v13 =>
  if v2 < v13 then (
   some (false, σ)
  ) else (
   (g_152 v1 t8 σ).bind fun t14 =>
   if t14 = true then (
    (
     if t6 = false then (
      (f_rd σ 162 210 (a1 + (5 : Int32))).bind fun v16 =>
      (g_155 v1 v2 v3 v4 v16 σ).bind fun t17 =>
      some t17
     ) else (
      (f_rd σ 162 210 (a1 + (5 : Int32))).bind fun v18 =>
      (f_rd σ 162 210 (a1 + (6 : Int32))).bind fun v19 =>
      (g_154 v1 v2 v3 v4 v18 v19 σ).bind fun t20 =>
      some t20
     )
    ).bind fun (t15 : f_M) =>
    (g_156  t15).bind fun t22 =>
    (
     if t22.1 < 0 then (
      some false
     ) else (
      some true
     )
    ).bind fun (t23 : Bool) =>
    some (t23, t22.2)
   ) else (
    some (false, σ)
   )
  )
set_option maxRecDepth 4000 in
def g_158 (a1 : Int32) (σ : f_M) : Option (Bool × f_M) :=
  (f_rd σ 162 210 (((7 : Int32) * a1) + (1 : Int32))).bind fun v1 =>
  (f_rd σ 162 210 ((7 : Int32) * a1)).bind fun v2 =>
  if v2 = (0 : Int32) then (
   (g_141 ((7 : Int32) * a1) σ).bind fun t3 =>
   some (t3.1, t3.2)
  ) else
  if v2 = (1 : Int32) then (
   (g_157 ((7 : Int32) * a1) σ).bind fun t5 =>
   some (t5.1, t5.2)
  ) else
  if v2 = (2 : Int32) then (
   (g_157 ((7 : Int32) * a1) σ).bind fun t7 =>
   some (t7.1, t7.2)
  ) else
  if v2 = (3 : Int32) then (
   (g_142 v1 σ).bind fun t9 =>
   (
    if t9 = false then (
     some (false, σ)
    ) else (
     (g_145 v1 σ).bind fun t11 =>
     if ¬ t11 = 0 then (
      some (false, σ)
     ) else (
      (g_148 v1 σ).bind fun t12 =>
      if t12.1 < 0 then (
       some (false, t12.2)
      ) else (
       some (true, t12.2)
      )
     )
    )
   ).bind fun (t10 : Bool × f_M) =>
   some (t10.1, t10.2)
  ) else
  if v2 = (4 : Int32) then (
   (f_rd σ 162 210 (((7 : Int32) * a1) + (2 : Int32))).bind fun v17 =>
   (g_149 v1 v17 σ).bind fun t18 =>
   (
    if t18.1 ≤ 0 then (
     some false
    ) else (
     some true
    )
   ).bind fun (t19 : Bool) =>
   some (t19, t18.2)
  ) else
  (
   (g_157 ((7 : Int32) * a1) σ).bind fun t22 =>
   some (t22.1, t22.2)
  )
set_option maxRecDepth 4000 in
def g_159  (σ : f_M) : Option (Int32 × f_M) :=
  (g_52  (f_up (f_up σ 155 6 (0 : Int32)) 155 20 (0 : Int32))).bind fun t1 =>
  (f_lp (fun (s2 : f_M) =>
   if ¬ (s2 155 17) = 0 then (
    some (.inr s2)
   ) else (
    if (s2 155 15) = 0 then (
     some (.inr s2)
    ) else (
     (g_117  s2).bind fun t3 =>
     some (.inl t3)
    )
   )
  ) f_F t1).bind fun (x2 : f_M) =>
  (g_63  x2).bind fun t6 =>
  if (t6 155 17) ≤ 0 then (
   (g_118  t6).bind fun t7 =>
   (f_lp (fun (s8 : Int32 × f_M) =>
    if (s8.2 155 20) ≤ s8.1 then (
     some (.inr (s8.1, s8.2))
    ) else (
     (g_158 s8.1 s8.2).bind fun t9 =>
     if t9.1 = false then (
      some (.inr (s8.1, t9.2))
     ) else (
      some (.inl ((s8.1 + (1 : Int32)), t9.2))
     )
    )
   ) f_F ((0 : Int32), t7)).bind fun (x8 : Int32 × f_M) =>
   some (x8.1, x8.2)
  ) else (
   some ((-1 : Int32), t6)
  )
set_option maxRecDepth 4000 in
def g_160  (σ : f_M) : Option (Int32) :=
  some (σ 3 6)
set_option maxRecDepth 4000 in
def g_161  (σ : f_M) : Option (Int32 × f_M) :=
  some (((f_up σ 155 6 (0 : Int32)) 155 11), (f_up σ 155 6 (0 : Int32)))
set_option maxRecDepth 4000 in
def g_162  (σ : f_M) : Option (Int32) :=
  some (σ 3 7)
set_option maxRecDepth 4000 in
def g_163  (σ : f_M) : Option (Int32 × f_M) :=
  some (((f_up σ 155 6 (0 : Int32)) 155 12), (f_up σ 155 6 (0 : Int32)))
set_option maxRecDepth 4000 in
def g_164  (σ : f_M) : Option (Int32) :=
  some (σ 121 0)
set_option maxRecDepth 4000 in
def g_165 (a1 : Int32) (σ : f_M) : Option (Int32 × f_M) :=
  (f_rd (f_up σ 155 6 (0 : Int32)) 156 2420 a1).bind fun v1 =>
  some (v1, (f_up σ 155 6 (0 : Int32)))
set_option maxRecDepth 4000 in
def g_166  (σ : f_M) : Option (Int32 × f_M) :=
  (g_165 (0 : Int32) σ).bind fun t1 =>
  some (t1.1, t1.2)
set_option maxRecDepth 4000 in
def g_167  (σ : f_M) : Option (Int32) :=
  some (σ 121 1)
set_option maxRecDepth 4000 in
def g_168  (σ : f_M) : Option (Int32 × f_M) :=
  (g_165 (1 : Int32) σ).bind fun t1 =>
  some (t1.1, t1.2)
set_option maxRecDepth 4000 in
def g_169  (σ : f_M) : Option (Int32) :=
  some (σ 103 0)
set_option maxRecDepth 4000 in
def g_170  (σ : f_M) : Option (Int32 × f_M) :=
  (g_165 (2 : Int32) σ).bind fun t1 =>
  some (t1.1, t1.2)
set_option maxRecDepth 4000 in
def g_171 (a0 : Int32) (a1 : Int32) (σ : f_M) : Option (Unit ⊕ Fin 4) :=
  if a0 < 0 then (
   some (.inr 0)
  ) else (
   if a0 < a1 then (
    some (.inl ())
   ) else (
    some (.inr 0)
   )
  )
set_option maxRecDepth 4000 in
def g_172 (a1 : Int32) (σ : f_M) : Option (Unit ⊕ Fin 4) :=
  (g_171 a1 (σ 103 0) σ).bind fun t1 => Sum.elim (fun _ =>
   some (.inl ())
  ) (fun k1 => some (.inr k1)) t1
set_option maxRecDepth 4000 in
def g_173 (a1 : Int32) (a2 : Int32) (σ : f_M) : Option (Int32 ⊕ Fin 4) :=
  (g_172 a1 σ).bind fun t1 => Sum.elim (fun _ =>
   if a2 < 0 then (
    some (.inl (-1 : Int32))
   ) else (
    (f_rd σ 104 8 a1).bind fun v2 =>
    if a2 < v2 then (
     (g_17 103 a1 a2 σ).bind fun t3 =>
     some (.inl t3)
    ) else (
     some (.inl (-1 : Int32))
    )
   )
  ) (fun k1 => some (.inr k1)) t1
set_option maxRecDepth 4000 in
def g_174 (a1 : Int32) (a2 : Int32) (σ : f_M) : Option (Int32 × f_M) :=
  (g_173 a1 a2 σ).bind fun t1 => Sum.elim (fun v1 =>
   (f_wr σ 167 1 (0 : Int32) v1).bind fun m2 =>
   some ((0 : Int32), m2)
  ) (fun k1 => (f_hc [(0, 1)] k1).bind fun v => some (v, σ)) t1
set_option maxRecDepth 4000 in
def g_175 (a1 : Int32) (σ : f_M) : Option (Bool) :=
  (f_rd σ 156 2420 (2 : Int32)).bind fun v1 =>
  (g_46 (a1).toInt64 (0 : Int64) ((v1 - (1 : Int32))).toInt64 σ).bind fun t2 =>
  some t2
set_option maxRecDepth 4000 in
def g_176 (a1 : Bool) (a2 : Bool) (a3 : Bool) (σ : f_M) : Option (Bool × f_M) :=
  (
   if a1 = true then (
    if a2 = true then (
     if a3 = true then (
      some (0 : Int32)
     ) else (
      some (3 : Int32)
     )
    ) else (
     some (2 : Int32)
    )
   ) else (
    some (1 : Int32)
   )
  ).bind fun (t1 : Int32) =>
  (
   if ¬ ((f_up σ 155 6 t1) 155 6) = 0 then (
    some false
   ) else (
    some true
   )
  ).bind fun (t5 : Bool) =>
  some (t5, (f_up σ 155 6 t1))
set_option maxRecDepth 4000 in
def g_177 (a1 : Int32) (a2 : Int32) (σ : f_M) : Option (Int32 × f_M) :=
  (g_175 a1 σ).bind fun t1 =>
  (g_176 t1 true true σ).bind fun t2 =>
  if t2.1 = true then (
   (g_36 a1 t2.2).bind fun t3 =>
   (f_rd t2.2 156 2420 t3).bind fun v4 =>
   (g_46 (a2).toInt64 (0 : Int64) ((v4 - (1 : Int32))).toInt64 t2.2).bind fun t5 =>
   (
    if t5 = false then (
     some (-1 : Int32)
    ) else (
     (g_36 a1 t2.2).bind fun t7 =>
     (f_rd t2.2 156 2420 ((t7 + (1 : Int32)) + a2)).bind fun v8 =>
     some v8
    )
   ).bind fun (t6 : Int32) =>
   some (t6, t2.2)
  ) else (
   some ((0 : Int32), t2.2)
  )
set_option maxRecDepth 4000 in
def g_178  (σ : f_M) : Option (Int32) :=
  some (σ 155 6)
set_option maxRecDepth 4000 in
def g_179 (a1 : Int32) (σ : f_M) : Option (Int32 ⊕ Fin 4) :=
  (g_172 a1 σ).bind fun t1 => Sum.elim (fun _ =>
   (f_rd σ 122 8 a1).bind fun v2 =>
   some (.inl v2)
  ) (fun k1 => some (.inr k1)) t1
set_option maxRecDepth 4000 in
def g_180 (a1 : Int32) (σ : f_M) : Option (Int32 × f_M) :=
  (g_179 a1 σ).bind fun t1 => Sum.elim (fun v1 =>
   (f_wr σ 167 1 (0 : Int32) v1).bind fun m2 =>
   some ((0 : Int32), m2)
  ) (fun k1 => (f_hc [(0, 1)] k1).bind fun v => some (v, σ)) t1
set_option maxRecDepth 4000 in
def g_181 (a1 : Int32) (σ : f_M) : Option (Int32 × f_M) :=
  (g_175 a1 σ).bind fun t1 =>
  (g_176 t1 true true σ).bind fun t2 =>
  (
   if t2.1 = false then (
    some (0 : Int32)
   ) else (
    (g_36 a1 t2.2).bind fun t4 =>
    (f_rd t2.2 156 2420 (t4 + (7 : Int32))).bind fun v5 =>
    some v5
   )
  ).bind fun (t3 : Int32) =>
  some (t3, t2.2)
set_option maxRecDepth 4000 in
def g_182 (a1 : Int32) (σ : f_M) : Option (Int32 ⊕ Fin 4) :=
  (g_172 a1 σ).bind fun t1 => Sum.elim (fun _ =>
   (f_lp (fun (s2 : Int32 × Int32) =>
    if (σ 121 3) ≤ s2.2 then (
     some (.inr s2.1)
    ) else (
     (f_rd σ 112 20 s2.2).bind fun v3 =>
     (
      if ¬ v3 = a1 then (
       some s2.1
      ) else (
       (g_76 121 s2.2 σ).bind fun t5 =>
       if t5 = false then (
        some s2.1
       ) else (
        (g_79 s2.2 σ).bind fun t6 =>
        some (s2.1 + t6)
       )
      )
     ).bind fun (t4 : Int32) =>
     some (.inl (t4, (s2.2 + (1 : Int32))))
    )
   ) f_F ((0 : Int32), (0 : Int32))).bind fun (x2 : Int32) =>
   some (.inl x2)
  ) (fun k1 => some (.inr k1)) t1
set_option maxRecDepth 4000 in
def g_183 (a1 : Int32) (σ : f_M) : Option (Int32 × f_M) :=
  (g_182 a1 σ).bind fun t1 => Sum.elim (fun v1 =>
   (f_wr σ 167 1 (0 : Int32) v1).bind fun m2 =>
   some ((0 : Int32), m2)
  ) (fun k1 => (f_hc [(0, 1)] k1).bind fun v => some (v, σ)) t1
set_option maxRecDepth 4000 in
def g_184 (a1 : Int32) (a2 : Int32) (σ : f_M) : Option (Bool) :=
  (g_119 a1 σ).bind fun t1 =>
  (f_rd σ 156 2420 (t1 + (1 : Int32))).bind fun v2 =>
  (
   if ¬ v2 = a2 then (
    some false
   ) else (
    some true
   )
  ).bind fun (t3 : Bool) =>
  some t3
set_option maxRecDepth 4000 in
def g_185 (a1 : Int32) (σ : f_M) : Option (Int32 × f_M) :=
  (g_175 a1 σ).bind fun t1 =>
  (g_176 t1 true true σ).bind fun t2 =>
  if t2.1 = true then (
   (f_lp (fun (s3 : Int32 × Int32) =>
    (f_rd t2.2 156 2420 (4 : Int32)).bind fun v4 =>
    if v4 ≤ s3.2 then (
     some (.inr s3.1)
    ) else (
     (g_184 s3.2 a1 t2.2).bind fun t5 =>
     (
      if t5 = false then (
       some false
      ) else (
       (f_rd t2.2 156 2420 (0 : Int32)).bind fun v7 =>
       (g_122 s3.2 v7 t2.2).bind fun t8 =>
       if t8 = false then (
        some false
       ) else (
        some true
       )
      )
     ).bind fun (t6 : Bool) =>
     (
      if t6 = false then (
       some (0 : Int32)
      ) else (
       (g_119 s3.2 t2.2).bind fun t12 =>
       (f_rd t2.2 156 2420 (t12 + (7 : Int32))).bind fun v13 =>
       some v13
      )
     ).bind fun (t11 : Int32) =>
     some (.inl ((s3.1 + t11), (s3.2 + (1 : Int32))))
    )
   ) f_F ((0 : Int32), (0 : Int32))).bind fun (x3 : Int32) =>
   some (x3, t2.2)
  ) else (
   some ((0 : Int32), t2.2)
  )
set_option maxRecDepth 4000 in
def g_186 (a1 : Int32) (σ : f_M) : Option (Unit ⊕ Fin 4) :=
  (g_171 a1 (σ 121 0) σ).bind fun t1 => Sum.elim (fun _ =>
   some (.inl ())
  ) (fun k1 => some (.inr k1)) t1
set_option maxRecDepth 4000 in
def g_187 (a1 : Int32) (σ : f_M) : Option (Int32 ⊕ Fin 4) :=
  (g_186 a1 σ).bind fun t1 => Sum.elim (fun _ =>
   (f_rd σ 109 1000 a1).bind fun v2 =>
   some (.inl v2)
  ) (fun k1 => some (.inr k1)) t1
set_option maxRecDepth 4000 in
def g_188 (a1 : Int32) (σ : f_M) : Option (Int32 × f_M) :=
  (g_187 a1 σ).bind fun t1 => Sum.elim (fun v1 =>
   (f_wr σ 167 1 (0 : Int32) v1).bind fun m2 =>
   some ((0 : Int32), m2)
  ) (fun k1 => (f_hc [(0, 1)] k1).bind fun v => some (v, σ)) t1
set_option maxRecDepth 4000 in
def g_189 (a1 : Int32) (σ : f_M) : Option (Bool) :=
  (f_rd σ 156 2420 (0 : Int32)).bind fun v1 =>
  (g_46 (a1).toInt64 (0 : Int64) ((v1 - (1 : Int32))).toInt64 σ).bind fun t2 =>
  some t2
set_option maxRecDepth 4000 in
def g_190 (a1 : Int32) (σ : f_M) : Option (Int32 × f_M) :=
  (g_189 a1 σ).bind fun t1 =>
  (g_176 t1 true true σ).bind fun t2 =>
  (
   if t2.1 = false then (
    some (0 : Int32)
   ) else (
    (f_rd t2.2 156 2420 ((420 : Int32) + a1)).bind fun v4 =>
    some v4
   )
  ).bind fun (t3 : Int32) =>
  some (t3, t2.2)
set_option maxRecDepth 4000 in
def g_191 (a1 : Int32) (σ : f_M) : Option (Int32 ⊕ Fin 4) :=
  (g_186 a1 σ).bind fun t1 => Sum.elim (fun _ =>
   (f_rd σ 110 1000 a1).bind fun v2 =>
   some (.inl v2)
  ) (fun k1 => some (.inr k1)) t1
set_option maxRecDepth 4000 in
def g_192 (a1 : Int32) (σ : f_M) : Option (Int32 × f_M) :=
  (g_191 a1 σ).bind fun t1 => Sum.elim (fun v1 =>
   (f_wr σ 167 1 (0 : Int32) v1).bind fun m2 =>
   some ((0 : Int32), m2)
  ) (fun k1 => (f_hc [(0, 1)] k1).bind fun v => some (v, σ)) t1
set_option maxRecDepth 4000 in
def g_193 (a1 : Int32) (σ : f_M) : Option (Int32 × f_M) :=
  (g_189 a1 σ).bind fun t1 =>
  (g_176 t1 true true σ).bind fun t2 =>
  (
   if t2.1 = false then (
    some (0 : Int32)
   ) else (
    (f_rd t2.2 156 2420 ((1420 : Int32) + a1)).bind fun v4 =>
    some v4
   )
  ).bind fun (t3 : Int32) =>
  some (t3, t2.2)
set_option maxRecDepth 4000 in
def g_194  (σ : f_M) : Option (Int32) :=
  some (σ 121 3)
set_option maxRecDepth 4000 in
def g_195  (σ : f_M) : Option (Int32 × f_M) :=
  (g_165 (4 : Int32) σ).bind fun t1 =>
  some (t1.1, t1.2)
set_option maxRecDepth 4000 in
def g_196 (a1 : Int32) (σ : f_M) : Option (Unit ⊕ Fin 4) :=
  (g_171 a1 (σ 121 3) σ).bind fun t1 => Sum.elim (fun _ =>
   some (.inl ())
  ) (fun k1 => some (.inr k1)) t1
set_option maxRecDepth 4000 in
def g_197 (a1 : Int32) (σ : f_M) : Option (Bool ⊕ Fin 4) :=
  (g_196 a1 σ).bind fun t1 => Sum.elim (fun _ =>
   (f_rd σ 111 20 a1).bind fun v2 =>
   (f_z v2).bind fun b3 => some (.inl b3)
  ) (fun k1 => some (.inr k1)) t1
set_option maxRecDepth 4000 in
def g_198 (a1 : Int32) (σ : f_M) : Option (Int32 × f_M) :=
  (g_197 a1 σ).bind fun t1 => Sum.elim (fun v1 =>
   (
    if v1 = false then (
     some (0 : Int32)
    ) else (
     some (1 : Int32)
    )
   ).bind fun (t2 : Int32) =>
   (f_wr σ 167 1 (0 : Int32) t2).bind fun m4 =>
   some ((0 : Int32), m4)
  ) (fun k1 => (f_hc [(0, 1)] k1).bind fun v => some (v, σ)) t1
set_option maxRecDepth 4000 in
def g_199 (a1 : Int32) (σ : f_M) : Option (Bool × f_M) :=
  (g_142 a1 σ).bind fun t1 =>
  (g_176 t1 true true σ).bind fun t2 =>
  (
   if t2.1 = false then (
    some false
   ) else (
    (g_119 a1 t2.2).bind fun t4 =>
    (f_rd t2.2 156 2420 (t4 + (0 : Int32))).bind fun v5 =>
    if ¬ v5 = 0 then (
     some false
    ) else (
     some true
    )
   )
  ).bind fun (t3 : Bool) =>
  some (t3, t2.2)
set_option maxRecDepth 4000 in
def g_200 (a1 : Int32) (σ : f_M) : Option (Int32 ⊕ Fin 4) :=
  (g_196 a1 σ).bind fun t1 => Sum.elim (fun _ =>
   (f_rd σ 112 20 a1).bind fun v2 =>
   some (.inl v2)
  ) (fun k1 => some (.inr k1)) t1
set_option maxRecDepth 4000 in
def g_201 (a1 : Int32) (σ : f_M) : Option (Int32 × f_M) :=
  (g_200 a1 σ).bind fun t1 => Sum.elim (fun v1 =>
   (f_wr σ 167 1 (0 : Int32) v1).bind fun m2 =>
   some ((0 : Int32), m2)
  ) (fun k1 => (f_hc [(0, 1)] k1).bind fun v => some (v, σ)) t1
set_option maxRecDepth 4000 in
def g_202 (a1 : Int32) (a2 : Int32) (σ : f_M) : Option (Int32 × f_M) :=
  (g_142 a1 σ).bind fun t1 =>
  (g_176 t1 true true σ).bind fun t2 =>
  (
   if t2.1 = false then (
    some (0 : Int32)
   ) else (
    (g_119 a1 t2.2).bind fun t4 =>
    (f_rd t2.2 156 2420 (t4 + a2)).bind fun v5 =>
    some v5
   )
  ).bind fun (t3 : Int32) =>
  some (t3, t2.2)
set_option maxRecDepth 4000 in
def g_203 (a1 : Int32) (σ : f_M) : Option (Int32 × f_M) :=
  (g_202 a1 (1 : Int32) σ).bind fun t1 =>
  some (t1.1, t1.2)
set_option maxRecDepth 4000 in
def g_204 (a1 : Int32) (σ : f_M) : Option (Int32 ⊕ Fin 4) :=
  (g_196 a1 σ).bind fun t1 => Sum.elim (fun _ =>
   (f_rd σ 113 20 a1).bind fun v2 =>
   some (.inl v2)
  ) (fun k1 => some (.inr k1)) t1
set_option maxRecDepth 4000 in
def g_205 (a1 : Int32) (σ : f_M) : Option (Int32 × f_M) :=
  (g_204 a1 σ).bind fun t1 => Sum.elim (fun v1 =>
   (f_wr σ 167 1 (0 : Int32) v1).bind fun m2 =>
   some ((0 : Int32), m2)
  ) (fun k1 => (f_hc [(0, 1)] k1).bind fun v => some (v, σ)) t1
set_option maxRecDepth 4000 in
def g_206 (a1 : Int32) (σ : f_M) : Option (Int32 × f_M) :=
  (g_202 a1 (2 : Int32) σ).bind fun t1 =>
  some (t1.1, t1.2)
set_option maxRecDepth 4000 in
def g_207 (a1 : Int32) (σ : f_M) : Option (Int32 ⊕ Fin 4) :=
  (g_196 a1 σ).bind fun t1 => Sum.elim (fun _ =>
   (f_rd σ 114 20 a1).bind fun v2 =>
   some (.inl v2)
  ) (fun k1 => some (.inr k1)) t1
set_option maxRecDepth 4000 in
def g_208 (a1 : Int32) (σ : f_M) : Option (Int32 × f_M) :=
  (g_207 a1 σ).bind fun t1 => Sum.elim (fun v1 =>
   (f_wr σ 167 1 (0 : Int32) v1).bind fun m2 =>
   some ((0 : Int32), m2)
  ) (fun k1 => (f_hc [(0, 1)] k1).bind fun v => some (v, σ)) t1
set_option maxRecDepth 4000 in
def g_209 (a1 : Int32) (σ : f_M) : Option (Int32 × f_M) :=
  (g_202 a1 (3 : Int32) σ).bind fun t1 =>
  some (t1.1, t1.2)
set_option maxRecDepth 4000 in
def g_210 (a1 : Int32) (σ : f_M) : Option (Int32 ⊕ Fin 4) :=
  (g_196 a1 σ).bind fun t1 => Sum.elim (fun _ =>
   (f_rd σ 115 20 a1).bind fun v2 =>
   some (.inl v2)
  ) (fun k1 => some (.inr k1)) t1
set_option maxRecDepth 4000 in
def g_211 (a1 : Int32) (σ : f_M) : Option (Int32 × f_M) :=
  (g_210 a1 σ).bind fun t1 => Sum.elim (fun v1 =>
   (f_wr σ 167 1 (0 : Int32) v1).bind fun m2 =>
   some ((0 : Int32), m2)
  ) (fun k1 => (f_hc [(0, 1)] k1).bind fun v => some (v, σ)) t1
set_option maxRecDepth 4000 in
def g_212 (a1 : Int32) (σ : f_M) : Option (Int32 × f_M) :=
  (g_202 a1 (4 : Int32) σ).bind fun t1 =>
  some (t1.1, t1.2)
set_option maxRecDepth 4000 in
def g_213 (a1 : Int32) (σ : f_M) : Option (Int32 ⊕ Fin 4) :=
  (g_196 a1 σ).bind fun t1 => Sum.elim (fun _ =>
   (g_79 a1 σ).bind fun t2 =>
   some (.inl t2)
  ) (fun k1 => some (.inr k1)) t1
set_option maxRecDepth 4000 in
def g_214 (a1 : Int32) (σ : f_M) : Option (Int32 × f_M) :=
  (g_213 a1 σ).bind fun t1 => Sum.elim (fun v1 =>
   (f_wr σ 167 1 (0 : Int32) v1).bind fun m2 =>
   some ((0 : Int32), m2)
  ) (fun k1 => (f_hc [(0, 1)] k1).bind fun v => some (v, σ)) t1
set_option maxRecDepth 4000 in
def g_215 (a1 : Int32) (σ : f_M) : Option (Int32 × f_M) :=
  (g_202 a1 (7 : Int32) σ).bind fun t1 =>
  some (t1.1, t1.2)
set_option maxRecDepth 4000 in
def g_216 (a1 : Int32) (σ : f_M) : Option (Bool ⊕ Fin 4) :=
  (g_196 a1 σ).bind fun t1 => Sum.elim (fun _ =>
   (g_76 121 a1 σ).bind fun t2 =>
   some (.inl t2)
  ) (fun k1 => some (.inr k1)) t1
set_option maxRecDepth 4000 in
def g_217 (a1 : Int32) (σ : f_M) : Option (Int32 × f_M) :=
  (g_216 a1 σ).bind fun t1 => Sum.elim (fun v1 =>
   (
    if v1 = false then (
     some (0 : Int32)
    ) else (
     some (1 : Int32)
    )
   ).bind fun (t2 : Int32) =>
   (f_wr σ 167 1 (0 : Int32) t2).bind fun m4 =>
   some ((0 : Int32), m4)
  ) (fun k1 => (f_hc [(0, 1)] k1).bind fun v => some (v, σ)) t1
set_option maxRecDepth 4000 in
def g_218 (a1 : Int32) (σ : f_M) : Option (Bool × f_M) :=
  (g_142 a1 σ).bind fun t1 =>
  (g_176 t1 true true σ).bind fun t2 =>
  (
   if t2.1 = false then (
    some false
   ) else (
    (f_rd t2.2 156 2420 (0 : Int32)).bind fun v4 =>
    (g_122 a1 v4 t2.2).bind fun t5 =>
    if t5 = false then (
     some false
    ) else (
     some true
    )
   )
  ).bind fun (t3 : Bool) =>
  some (t3, t2.2)
set_option maxRecDepth 4000 in
def g_219 (a1 : Int32) (σ : f_M) : Option (Bool ⊕ Fin 4) :=
  (g_196 a1 σ).bind fun t1 => Sum.elim (fun _ =>
   (f_rd σ 123 20 a1).bind fun v2 =>
   (f_z v2).bind fun b3 => some (.inl b3)
  ) (fun k1 => some (.inr k1)) t1
set_option maxRecDepth 4000 in
def g_220 (a1 : Int32) (σ : f_M) : Option (Int32 × f_M) :=
  (g_219 a1 σ).bind fun t1 => Sum.elim (fun v1 =>
   (
    if v1 = false then (
     some (0 : Int32)
    ) else (
     some (1 : Int32)
    )
   ).bind fun (t2 : Int32) =>
   (f_wr σ 167 1 (0 : Int32) t2).bind fun m4 =>
   some ((0 : Int32), m4)
  ) (fun k1 => (f_hc [(0, 1)] k1).bind fun v => some (v, σ)) t1
set_option maxRecDepth 4000 in
def g_221 (a1 : Int32) (σ : f_M) : Option (Bool × f_M) :=
  (g_202 a1 (8 : Int32) σ).bind fun t1 =>
  (
   if ¬ t1.1 = (1 : Int32) then (
    some false
   ) else (
    some true
   )
  ).bind fun (t2 : Bool) =>
  some (t2, t1.2)
set_option maxRecDepth 4000 in
def g_222 (a1 : Int32) (σ : f_M) : Option (Int32 ⊕ Fin 4) :=
  (g_196 a1 σ).bind fun t1 => Sum.elim (fun _ =>
   (g_88 a1 (σ 121 0) σ).bind fun t2 =>
   some (.inl t2)
  ) (fun k1 => some (.inr k1)) t1
set_option maxRecDepth 4000 in
def g_223 (a1 : Int32) (σ : f_M) : Option (Int32 × f_M) :=
  (g_222 a1 σ).bind fun t1 => Sum.elim (fun v1 =>
   (f_wr σ 167 1 (0 : Int32) v1).bind fun m2 =>
   some ((0 : Int32), m2)
  ) (fun k1 => (f_hc [(0, 1)] k1).bind fun v => some (v, σ)) t1
set_option maxRecDepth 4000 in
def g_224 (a1 : Int32) (σ : f_M) : Option (Int32 × f_M) :=
  (g_142 a1 σ).bind fun t1 =>
  (g_176 t1 true true σ).bind fun t2 =>
  (
   if t2.1 = false then (
    some (0 : Int32)
   ) else (
    (g_134 a1 t2.2).bind fun t4 =>
    some t4
   )
  ).bind fun (t3 : Int32) =>
  some (t3, t2.2)
set_option maxRecDepth 4000 in
def g_225 (a1 : Int32) (σ : f_M) : Option (Int32 ⊕ Fin 4) :=
  (g_196 a1 σ).bind fun t1 => Sum.elim (fun _ =>
   (g_105 a1 σ).bind fun t2 =>
   some (.inl t2)
  ) (fun k1 => some (.inr k1)) t1
set_option maxRecDepth 4000 in
def g_226 (a1 : Int32) (σ : f_M) : Option (Int32 × f_M) :=
  (g_225 a1 σ).bind fun t1 => Sum.elim (fun v1 =>
   (f_wr σ 167 1 (0 : Int32) v1).bind fun m2 =>
   some ((0 : Int32), m2)
  ) (fun k1 => (f_hc [(0, 1)] k1).bind fun v => some (v, σ)) t1
set_option maxRecDepth 4000 in
def g_227 (a1 : Int32) (σ : f_M) : Option (Int32 × f_M) :=
  (g_142 a1 σ).bind fun t1 =>
  (g_176 t1 true true σ).bind fun t2 =>
  (
   if t2.1 = false then (
    some (0 : Int32)
   ) else (
    (g_145 a1 t2.2).bind fun t4 =>
    some t4
   )
  ).bind fun (t3 : Int32) =>
  some (t3, t2.2)
set_option maxRecDepth 4000 in
def g_228  (σ : f_M) : Option (Int32) :=
  some (σ 121 5)
set_option maxRecDepth 4000 in
def g_229  (σ : f_M) : Option (Int32 × f_M) :=
  (g_165 (5 : Int32) σ).bind fun t1 =>
  some (t1.1, t1.2)
set_option maxRecDepth 4000 in
def g_230 (a1 : Int32) (σ : f_M) : Option (Unit ⊕ Fin 4) :=
  (g_171 a1 (σ 121 5) σ).bind fun t1 => Sum.elim (fun _ =>
   some (.inl ())
  ) (fun k1 => some (.inr k1)) t1
set_option maxRecDepth 4000 in
def g_231 (a1 : Int32) (σ : f_M) : Option (Int32 ⊕ Fin 4) :=
  (g_230 a1 σ).bind fun t1 => Sum.elim (fun _ =>
   (f_rd σ 119 20 a1).bind fun v2 =>
   some (.inl v2)
  ) (fun k1 => some (.inr k1)) t1
set_option maxRecDepth 4000 in
def g_232 (a1 : Int32) (σ : f_M) : Option (Int32 × f_M) :=
  (g_231 a1 σ).bind fun t1 => Sum.elim (fun v1 =>
   (f_wr σ 167 1 (0 : Int32) v1).bind fun m2 =>
   some ((0 : Int32), m2)
  ) (fun k1 => (f_hc [(0, 1)] k1).bind fun v => some (v, σ)) t1
set_option maxRecDepth 4000 in
def g_233 (a1 : Int32) (σ : f_M) : Option (Bool) :=
  (f_rd σ 156 2420 (5 : Int32)).bind fun v1 =>
  (g_46 (a1).toInt64 (0 : Int64) ((v1 - (1 : Int32))).toInt64 σ).bind fun t2 =>
  some t2
set_option maxRecDepth 4000 in
def g_234 (a1 : Int32) (a2 : Int32) (σ : f_M) : Option (Int32 × f_M) :=
  (g_233 a1 σ).bind fun t1 =>
  (g_176 t1 true true σ).bind fun t2 =>
  (
   if t2.1 = false then (
    some (0 : Int32)
   ) else (
    (g_126 a1 t2.2).bind fun t4 =>
    (f_rd t2.2 156 2420 (t4 + a2)).bind fun v5 =>
    some v5
   )
  ).bind fun (t3 : Int32) =>
  some (t3, t2.2)
set_option maxRecDepth 4000 in
def g_235 (a1 : Int32) (σ : f_M) : Option (Int32 × f_M) :=
  (g_234 a1 (0 : Int32) σ).bind fun t1 =>
  some (t1.1, t1.2)
set_option maxRecDepth 4000 in
def g_236 (a1 : Int32) (σ : f_M) : Option (Int32 ⊕ Fin 4) :=
  (g_230 a1 σ).bind fun t1 => Sum.elim (fun _ =>
   (f_rd σ 120 20 a1).bind fun v2 =>
   some (.inl v2)
  ) (fun k1 => some (.inr k1)) t1
set_option maxRecDepth 4000 in
def g_237 (a1 : Int32) (σ : f_M) : Option (Int32 × f_M) :=
  (g_236 a1 σ).bind fun t1 => Sum.elim (fun v1 =>
   (f_wr σ 167 1 (0 : Int32) v1).bind fun m2 =>
   some ((0 : Int32), m2)
  ) (fun k1 => (f_hc [(0, 1)] k1).bind fun v => some (v, σ)) t1
set_option maxRecDepth 4000 in
def g_238 (a1 : Int32) (σ : f_M) : Option (Int32 × f_M) :=
  (g_234 a1 (1 : Int32) σ).bind fun t1 =>
  some (t1.1, t1.2)
set_option maxRecDepth 4000 in
def g_239 (a1 : Int32) (σ : f_M) : Option (Bool ⊕ Fin 4) :=
  (g_230 a1 σ).bind fun t1 => Sum.elim (fun _ =>
   (f_rd σ 124 20 a1).bind fun v2 =>
   (
    if ¬ v2 = 0 then (
     some false
    ) else (
     some true
    )
   ).bind fun (t3 : Bool) =>
   some (.inl t3)
  ) (fun k1 => some (.inr k1)) t1
set_option maxRecDepth 4000 in
def g_240 (a1 : Int32) (σ : f_M) : Option (Int32 × f_M) :=
  (g_239 a1 σ).bind fun t1 => Sum.elim (fun v1 =>
   (
    if v1 = false then (
     some (0 : Int32)
    ) else (
     some (1 : Int32)
    )
   ).bind fun (t2 : Int32) =>
   (f_wr σ 167 1 (0 : Int32) t2).bind fun m4 =>
   some ((0 : Int32), m4)
  ) (fun k1 => (f_hc [(0, 1)] k1).bind fun v => some (v, σ)) t1
set_option maxRecDepth 4000 in
def g_241 (a1 : Int32) (a2 : Int32) (σ : f_M) : Option (Bool × f_M) :=
  (g_233 a1 σ).bind fun t1 =>
  (g_176 t1 true true σ).bind fun t2 =>
  (
   if t2.1 = false then (
    some false
   ) else (
    (g_126 a1 t2.2).bind fun t4 =>
    (f_rd t2.2 156 2420 (t4 + (3 : Int32))).bind fun v5 =>
    if ¬ v5 = a2 then (
     some false
    ) else (
     some true
    )
   )
  ).bind fun (t3 : Bool) =>
  some (t3, t2.2)
set_option maxRecDepth 4000 in
def g_242 (a1 : Int32) (σ : f_M) : Option (Bool × f_M) :=
  (g_241 a1 (0 : Int32) σ).bind fun t1 =>
  some (t1.1, t1.2)
set_option maxRecDepth 4000 in
def g_243 (a1 : Int32) (σ : f_M) : Option (Bool ⊕ Fin 4) :=
  (g_230 a1 σ).bind fun t1 => Sum.elim (fun _ =>
   (f_rd σ 124 20 a1).bind fun v2 =>
   (
    if ¬ v2 = (1 : Int32) then (
     some false
    ) else (
     some true
    )
   ).bind fun (t3 : Bool) =>
   some (.inl t3)
  ) (fun k1 => some (.inr k1)) t1
set_option maxRecDepth 4000 in
def g_244 (a1 : Int32) (σ : f_M) : Option (Int32 × f_M) :=
  (g_243 a1 σ).bind fun t1 => Sum.elim (fun v1 =>
   (
    if v1 = false then (
     some (0 : Int32)
    ) else (
     some (1 : Int32)
    )
   ).bind fun (t2 : Int32) =>
   (f_wr σ 167 1 (0 : Int32) t2).bind fun m4 =>
   some ((0 : Int32), m4)
  ) (fun k1 => (f_hc [(0, 1)] k1).bind fun v => some (v, σ)) t1
set_option maxRecDepth 4000 in
def g_245 (a1 : Int32) (σ : f_M) : Option (Bool × f_M) :=
  (g_241 a1 (1 : Int32) σ).bind fun t1 =>
  some (t1.1, t1.2)
set_option maxRecDepth 4000 in
def g_246 (a1 : Int32) (σ : f_M) : Option (Bool ⊕ Fin 4) :=
  (g_230 a1 σ).bind fun t1 => Sum.elim (fun _ =>
   (f_rd σ 124 20 a1).bind fun v2 =>
   (
    if ¬ v2 = (3 : Int32) then (
     some false
    ) else (
     some true
    )
   ).bind fun (t3 : Bool) =>
   some (.inl t3)
  ) (fun k1 => some (.inr k1)) t1
set_option maxRecDepth 4000 in
def g_247 (a1 : Int32) (σ : f_M) : Option (Int32 × f_M) :=
  (g_246 a1 σ).bind fun t1 => Sum.elim (fun v1 =>
   (
    if v1 = false then (
     some (0 : Int32)
    ) else (
     some (1 : Int32)
    )
   ).bind fun (t2 : Int32) =>
   (f_wr σ 167 1 (0 : Int32) t2).bind fun m4 =>
   some ((0 : Int32), m4)
  ) (fun k1 => (f_hc [(0, 1)] k1).bind fun v => some (v, σ)) t1
set_option maxRecDepth 4000 in
def g_248 (a1 : Int32) (σ : f_M) : Option (Bool × f_M) :=
  (g_241 a1 (3 : Int32) σ).bind fun t1 =>
  some (t1.1, t1.2)
set_option maxRecDepth 4000 in
def g_249 (a1 : Int32) (σ : f_M) : Option (Int32 ⊕ Fin 4) :=
  (g_230 a1 σ).bind fun t1 => Sum.elim (fun _ =>
   (f_rd σ 126 20 a1).bind fun v2 =>
   some (.inl v2)
  ) (fun k1 => some (.inr k1)) t1
set_option maxRecDepth 4000 in
def g_250 (a1 : Int32) (σ : f_M) : Option (Int32 × f_M) :=
  (g_249 a1 σ).bind fun t1 => Sum.elim (fun v1 =>
   (f_wr σ 167 1 (0 : Int32) v1).bind fun m2 =>
   some ((0 : Int32), m2)
  ) (fun k1 => (f_hc [(0, 1)] k1).bind fun v => some (v, σ)) t1
set_option maxRecDepth 4000 in
def g_251 (a1 : Int32) (σ : f_M) : Option (Int32 × f_M) :=
  (g_234 a1 (4 : Int32) σ).bind fun t1 =>
  some (t1.1, t1.2)
set_option maxRecDepth 4000 in
def g_252  (σ : f_M) : Option (Int32) :=
  some (σ 103 4)
set_option maxRecDepth 4000 in
def g_253  (σ : f_M) : Option (Int32 × f_M) :=
  (g_165 (3 : Int32) σ).bind fun t1 =>
  some (t1.1, t1.2)
set_option maxRecDepth 4000 in
def g_254 (a1 : Int32) (σ : f_M) : Option (Unit ⊕ Fin 4) :=
  (g_171 a1 (σ 103 4) σ).bind fun t1 => Sum.elim (fun _ =>
   some (.inl ())
  ) (fun k1 => some (.inr k1)) t1
set_option maxRecDepth 4000 in
def g_255 (a1 : Int32) (σ : f_M) : Option (Int32 ⊕ Fin 4) :=
  (g_254 a1 σ).bind fun t1 => Sum.elim (fun _ =>
   (f_rd σ 107 3 a1).bind fun v2 =>
   some (.inl v2)
  ) (fun k1 => some (.inr k1)) t1
set_option maxRecDepth 4000 in
def g_256 (a1 : Int32) (σ : f_M) : Option (Int32 × f_M) :=
  (g_255 a1 σ).bind fun t1 => Sum.elim (fun v1 =>
   (f_wr σ 167 1 (0 : Int32) v1).bind fun m2 =>
   some ((0 : Int32), m2)
  ) (fun k1 => (f_hc [(0, 1)] k1).bind fun v => some (v, σ)) t1
set_option maxRecDepth 4000 in
def g_257 (a1 : Int32) (σ : f_M) : Option (Bool) :=
  (f_rd σ 156 2420 (3 : Int32)).bind fun v1 =>
  (g_46 (a1).toInt64 (0 : Int64) ((v1 - (1 : Int32))).toInt64 σ).bind fun t2 =>
  some t2
set_option maxRecDepth 4000 in
def g_258 (a1 : Int32) (σ : f_M) : Option (Int32 × f_M) :=
  (g_257 a1 σ).bind fun t1 =>
  (g_176 t1 true true σ).bind fun t2 =>
  (
   if t2.1 = false then (
    some (0 : Int32)
   ) else (
    (f_rd t2.2 156 2420 ((95 : Int32) + a1)).bind fun v4 =>
    some v4
   )
  ).bind fun (t3 : Int32) =>
  some (t3, t2.2)
set_option maxRecDepth 4000 in
def g_259 (a1 : Int32) (σ : f_M) : Option (Int32 ⊕ Fin 4) :=
  (g_254 a1 σ).bind fun t1 => Sum.elim (fun _ =>
   (g_106 a1 σ).bind fun t2 =>
   some (.inl t2)
  ) (fun k1 => some (.inr k1)) t1
set_option maxRecDepth 4000 in
def g_260 (a1 : Int32) (σ : f_M) : Option (Int32 × f_M) :=
  (g_259 a1 σ).bind fun t1 => Sum.elim (fun v1 =>
   (f_wr σ 167 1 (0 : Int32) v1).bind fun m2 =>
   some ((0 : Int32), m2)
  ) (fun k1 => (f_hc [(0, 1)] k1).bind fun v => some (v, σ)) t1
set_option maxRecDepth 4000 in
def g_261 (a1 : Int32) (σ : f_M) : Option (Int32 × f_M) :=
  (g_257 a1 σ).bind fun t1 =>
  (g_176 t1 true true σ).bind fun t2 =>
  (
   if t2.1 = false then (
    some (0 : Int32)
   ) else (
    (g_146 a1 t2.2).bind fun t4 =>
    some t4
   )
  ).bind fun (t3 : Int32) =>
  some (t3, t2.2)
set_option maxRecDepth 4000 in
def g_262  (σ : f_M) : Option (Int32) :=
  (g_107  σ).bind fun t1 =>
  some t1
set_option maxRecDepth 4000 in
def g_263  (σ : f_M) : Option (Int32 × f_M) :=
  (g_147  (f_up σ 155 6 (0 : Int32))).bind fun t1 =>
  some (t1, (f_up σ 155 6 (0 : Int32)))
set_option maxRecDepth 4000 in
def g_264  (σ : f_M) : Option (Int32) :=
  (
   if (σ 121 10) ≤ (σ 121 11) then (
    some (-1 : Int32)
   ) else (
    (f_rd σ 127 20 (σ 121 11)).bind fun v2 =>
    some v2
   )
  ).bind fun (t1 : Int32) =>
  some t1
set_option maxRecDepth 4000 in
def g_265  (σ : f_M) : Option (Int32 × f_M) :=
  (g_137  (f_up σ 155 6 (0 : Int32))).bind fun t1 =>
  some (t1, (f_up σ 155 6 (0 : Int32)))
set_option maxRecDepth 4000 in
def g_266  (σ : f_M) : Option (Int32) :=
  (f_lp (fun (s1 : Int32 × Int32) =>
   if (σ 121 10) ≤ s1.2 then (
    some (.inr s1.1)
   ) else (
    (f_rd σ 127 20 s1.2).bind fun v2 =>
    (f_rd σ 126 20 v2).bind fun v3 =>
    some (.inl ((s1.1 + v3), (s1.2 + (1 : Int32))))
   )
  ) f_F ((0 : Int32), (σ 121 11))).bind fun (x1 : Int32) =>
  some x1
set_option maxRecDepth 4000 in
def g_267 (a1 : Int32) (σ : f_M) : Option (Int32) :=
  (f_lp (fun (s1 : Int32 × Int32) =>
   (f_rd σ 156 2420 (5 : Int32)).bind fun v2 =>
   if v2 ≤ s1.2 then (
    some (.inr s1.1)
   ) else (
    (g_126 s1.2 σ).bind fun t3 =>
    (f_rd σ 156 2420 (t3 + (3 : Int32))).bind fun v4 =>
    (
     if ¬ v4 = a1 then (
      some (0 : Int32)
     ) else (
      (g_126 s1.2 σ).bind fun t6 =>
      (f_rd σ 156 2420 (t6 + (4 : Int32))).bind fun v7 =>
      some v7
     )
    ).bind fun (t5 : Int32) =>
    some (.inl ((s1.1 + t5), (s1.2 + (1 : Int32))))
   )
  ) f_F ((0 : Int32), (0 : Int32))).bind fun (x1 : Int32) =>
  some x1
set_option maxRecDepth 4000 in
def g_268  (σ : f_M) : Option (Int32 × f_M) :=
  (g_267 (2 : Int32) (f_up σ 155 6 (0 : Int32))).bind fun t1 =>
  some (t1, (f_up σ 155 6 (0 : Int32)))
set_option maxRecDepth 4000 in
def g_269  (σ : f_M) : Option (Int32) :=
  some (σ 121 12)
set_option maxRecDepth 4000 in
def g_270  (σ : f_M) : Option (Int32 × f_M) :=
  (g_165 (6 : Int32) σ).bind fun t1 =>
  some (t1.1, t1.2)
set_option maxRecDepth 4000 in
def g_271  (σ : f_M) : Option (Int32) :=
  some (σ 121 13)
set_option maxRecDepth 4000 in
def g_272  (σ : f_M) : Option (Int32 × f_M) :=
  (g_165 (7 : Int32) σ).bind fun t1 =>
  some (t1.1, t1.2)
set_option maxRecDepth 4000 in
def g_273  (σ : f_M) : Option (Int32) :=
  some (σ 121 14)
set_option maxRecDepth 4000 in
def g_274  (σ : f_M) : Option (Int32 × f_M) :=
  (g_165 (8 : Int32) σ).bind fun t1 =>
  some (t1.1, t1.2)
set_option maxRecDepth 4000 in
def g_275 (a1 : Int32) (σ : f_M) : Option (Int32) :=
  (f_lp (fun (s1 : Int32 × Int32) =>
   if (σ 121 11) ≤ s1.2 then (
    some (.inr s1.1)
   ) else (
    (f_rd σ 127 20 s1.2).bind fun v2 =>
    (g_91 v2 σ).bind fun t3 =>
    (
     if ¬ t3 = a1 then (
      some s1.1
     ) else (
      (f_rd σ 126 20 v2).bind fun v5 =>
      some (s1.1 + v5)
     )
    ).bind fun (t4 : Int32) =>
    some (.inl (t4, (s1.2 + (1 : Int32))))
   )
  ) f_F ((0 : Int32), (0 : Int32))).bind fun (x1 : Int32) =>
  some x1
set_option maxRecDepth 4000 in
def g_276  (σ : f_M) : Option (Int32) :=
  (f_lp (fun (s1 : Int32 × Int32 × Int32) =>
   if (σ 103 0) ≤ s1.2.2 then (
    some (.inr s1.1)
   ) else (
    (g_275 s1.2.2 σ).bind fun t2 =>
    (
     if t2 ≤ s1.2.1 then (
      some (s1.1, s1.2.1)
     ) else (
      some (s1.2.2, t2)
     )
    ).bind fun (t3 : Int32 × Int32) =>
    some (.inl (t3.1, t3.2, (s1.2.2 + (1 : Int32))))
   )
  ) f_F ((0 : Int32), (0 : Int32), (0 : Int32))).bind fun (x1 : Int32) =>
  some x1
set_option maxRecDepth 4000 in
def g_277  (σ : f_M) : Option (Int32 × f_M) :=
  (f_lp (fun (s1 : Int32 × Int32) =>
   (f_rd (f_up σ 155 6 (0 : Int32)) 156 2420 (2 : Int32)).bind fun v2 =>
   if v2 ≤ s1.2 then (
    some (.inr s1.1)
   ) else (
    (g_36 s1.2 (f_up σ 155 6 (0 : Int32))).bind fun t3 =>
    (f_rd (f_up σ 155 6 (0 : Int32)) 156 2420 (t3 + (8 : Int32))).bind fun v4 =>
    (g_36 s1.1 (f_up σ 155 6 (0 : Int32))).bind fun t5 =>
    (f_rd (f_up σ 155 6 (0 : Int32)) 156 2420 (t5 + (8 : Int32))).bind fun v6 =>
    (
     if v4 ≤ v6 then (
      some s1.1
     ) else (
      some s1.2
     )
    ).bind fun (t7 : Int32) =>
    some (.inl (t7, (s1.2 + (1 : Int32))))
   )
  ) f_F ((0 : Int32), (1 : Int32))).bind fun (x1 : Int32) =>
  some (x1, (f_up σ 155 6 (0 : Int32)))
set_option maxRecDepth 4000 in
def g_278  (σ : f_M) : Option (Int32) :=
  (f_lp (fun (s1 : Int32 × Int32) =>
   if (σ 121 3) ≤ s1.2 then (
    some (.inr s1.1)
   ) else (
    (f_rd σ 123 20 s1.2).bind fun v2 =>
    (
     if v2 = 0 then (
      some s1.1
     ) else (
      some (s1.1 + (1 : Int32))
     )
    ).bind fun (t3 : Int32) =>
    some (.inl (t3, (s1.2 + (1 : Int32))))
   )
  ) f_F ((0 : Int32), (0 : Int32))).bind fun (x1 : Int32) =>
  some x1
set_option maxRecDepth 4000 in
def g_279  (σ : f_M) : Option (Int32 × f_M) :=
  (f_lp (fun (s1 : Int32 × Int32) =>
   (f_rd (f_up σ 155 6 (0 : Int32)) 156 2420 (4 : Int32)).bind fun v2 =>
   if v2 ≤ s1.2 then (
    some (.inr s1.1)
   ) else (
    (g_120 s1.2 (f_up σ 155 6 (0 : Int32))).bind fun t3 =>
    (g_131 t3 (f_up σ 155 6 (0 : Int32))).bind fun t4 =>
    some (.inl ((s1.1 + t4), (s1.2 + (1 : Int32))))
   )
  ) f_F ((0 : Int32), (0 : Int32))).bind fun (x1 : Int32) =>
  some (x1, (f_up σ 155 6 (0 : Int32)))
set_option maxRecDepth 4000 in
def g_280  (σ : f_M) : Option (UInt64) :=
  if ¬ (σ 121 12) = 0 then (
   if FP.ddiv (FP.i2d (σ 121 13)) (FP.i2d (σ 121 12)) &&& 0x7fffffffffffffff ≤ 0x7ff0000000000000 then (
   some (FP.ddiv (FP.i2d (σ 121 13)) (FP.i2d (σ 121 12)))
   ) else none
  ) else (
   some FP.dconst0
  )
set_option maxRecDepth 4000 in
def g_281  (σ : f_M) : Option (UInt64 × f_M) :=
  (f_rd (f_up σ 155 6 (0 : Int32)) 156 2420 (6 : Int32)).bind fun v1 =>
  (
   if ¬ v1 = 0 then (
    (f_rd (f_up σ 155 6 (0 : Int32)) 156 2420 (7 : Int32)).bind fun v3 =>
    (f_rd (f_up σ 155 6 (0 : Int32)) 156 2420 (6 : Int32)).bind fun v4 =>
    if FP.ddiv (FP.i2d v3) (FP.i2d v4) &&& 0x7fffffffffffffff ≤ 0x7ff0000000000000 then (
    some (FP.ddiv (FP.i2d v3) (FP.i2d v4))
    ) else none
   ) else (
    some FP.dconst0
   )
  ).bind fun (t2 : UInt64) =>
  some (t2, (f_up σ 155 6 (0 : Int32)))
set_option maxRecDepth 4000 in
def g_282  (σ : f_M) : Option (UInt32) :=
  (f_lp (fun (s1 : Int32 × Int32) =>
   if (σ 121 5) ≤ s1.2 then (
    some (.inr s1.1)
   ) else (
    (f_rd σ 124 20 s1.2).bind fun v2 =>
    (
     if v2 = 0 then (
      some s1.1
     ) else (
      some (s1.1 + (1 : Int32))
     )
    ).bind fun (t3 : Int32) =>
    some (.inl (t3, (s1.2 + (1 : Int32))))
   )
  ) f_F ((0 : Int32), (0 : Int32))).bind fun (x1 : Int32) =>
  if ¬ x1 = 0 then (
   if FP.fdiv (FP.i2f (σ 121 10)) (FP.i2f x1) &&& 0x7fffffff ≤ 0x7f800000 then (
   some (FP.fdiv (FP.i2f (σ 121 10)) (FP.i2f x1))
   ) else none
  ) else (
   some FP.fconst0
  )
set_option maxRecDepth 4000 in
def g_283 (a1 : Int32) (σ : f_M) : Option (Int32) :=
  (f_lp (fun (s1 : Int32 × Int32) =>
   (f_rd σ 156 2420 (5 : Int32)).bind fun v2 =>
   if v2 ≤ s1.2 then (
    some (.inr s1.1)
   ) else (
    (g_126 s1.2 σ).bind fun t3 =>
    (f_rd σ 156 2420 (t3 + (3 : Int32))).bind fun v4 =>
    (
     if ¬ v4 = a1 then (
      some false
     ) else (
      some true
     )
    ).bind fun (t5 : Bool) =>
    (g_131 t5 σ).bind fun t7 =>
    some (.inl ((s1.1 + t7), (s1.2 + (1 : Int32))))
   )
  ) f_F ((0 : Int32), (0 : Int32))).bind fun (x1 : Int32) =>
  some x1
set_option maxRecDepth 4000 in
def g_284  (σ : f_M) : Option (UInt32 × f_M) :=
  (g_283 (2 : Int32) (f_up σ 155 6 (0 : Int32))).bind fun t1 =>
  (g_283 (3 : Int32) (f_up σ 155 6 (0 : Int32))).bind fun t2 =>
  (f_rd (f_up σ 155 6 (0 : Int32)) 156 2420 (10 : Int32)).bind fun v3 =>
  (
   if ¬ v3 = 0 then (
    (f_rd (f_up σ 155 6 (0 : Int32)) 156 2420 (10 : Int32)).bind fun v5 =>
    if FP.fdiv (FP.i2f (t1 + t2)) (FP.i2f v5) &&& 0x7fffffff ≤ 0x7f800000 then (
    some (FP.fdiv (FP.i2f (t1 + t2)) (FP.i2f v5))
    ) else none
   ) else (
    some FP.fconst0
   )
  ).bind fun (t4 : UInt32) =>
  some (t4, (f_up σ 155 6 (0 : Int32)))
set_option maxRecDepth 4000 in
def g_285 (a0 : Int32) (a1 : Int32) (a2 : Int32) (σ : f_M) : Option (Unit ⊕ Fin 4) :=
  if a0 < a1 then (
   some (.inr 1)
  ) else (
   if a0 ≤ a2 then (
    some (.inl ())
   ) else (
    some (.inr 1)
   )
  )
set_option maxRecDepth 4000 in
def g_286 (a1 : Int32) (a2 : Int32) (σ : f_M) : Option (Int32 ⊕ Fin 4) :=
  (g_285 a1 (1 : Int32) (24 : Int32) σ).bind fun t1 => Sum.elim (fun _ =>
   (g_285 a2 (1 : Int32) (500 : Int32) σ).bind fun t2 => Sum.elim (fun _ =>
    (g_77 a1 a2 σ).bind fun t3 =>
    some (.inl t3)
   ) (fun k2 => some (.inr k2)) t2
  ) (fun k1 => some (.inr k1)) t1
set_option maxRecDepth 4000 in
def g_287 (a1 : Int32) (a2 : Int32) (σ : f_M) : Option (Int32 × f_M) :=
  (g_286 a1 a2 σ).bind fun t1 => Sum.elim (fun v1 =>
   (f_wr σ 167 1 (0 : Int32) v1).bind fun m2 =>
   some ((0 : Int32), m2)
  ) (fun k1 => (f_hc [(1, 1)] k1).bind fun v => some (v, σ)) t1
set_option maxRecDepth 4000 in
def g_288 (a1 : Int32) (a2 : Int32) (σ : f_M) : Option (Int32 × f_M) :=
  (g_46 (a1).toInt64 (1 : Int64) (24 : Int64) σ).bind fun t1 =>
  (
   if t1 = false then (
    some false
   ) else (
    (g_46 (a2).toInt64 (1 : Int64) (500 : Int64) σ).bind fun t3 =>
    if t3 = false then (
     some false
    ) else (
     some true
    )
   )
  ).bind fun (t2 : Bool) =>
  (g_176 t2 true true σ).bind fun t6 =>
  (
   if t6.1 = false then (
    some (0 : Int32)
   ) else (
    (g_150 a1 a2 t6.2).bind fun t8 =>
    some t8
   )
  ).bind fun (t7 : Int32) =>
  some (t7, t6.2)
set_option maxRecDepth 4000 in
def g_289 (a1 : Int32) (a2 : Int32) (a3 : Int32) (σ : f_M) : Option (Int32 ⊕ Fin 4) :=
  (g_285 a1 (1 : Int32) (24 : Int32) σ).bind fun t1 => Sum.elim (fun _ =>
   (g_285 a2 (1 : Int32) (500 : Int32) σ).bind fun t2 => Sum.elim (fun _ =>
    (g_285 a3 (0 : Int32) (50 : Int32) σ).bind fun t3 => Sum.elim (fun _ =>
     (g_78 a1 a2 a3 σ).bind fun t4 =>
     some (.inl t4)
    ) (fun k3 => some (.inr k3)) t3
   ) (fun k2 => some (.inr k2)) t2
  ) (fun k1 => some (.inr k1)) t1
set_option maxRecDepth 4000 in
def g_290 (a1 : Int32) (a2 : Int32) (a3 : Int32) (σ : f_M) : Option (Int32 × f_M) :=
  (g_289 a1 a2 a3 σ).bind fun t1 => Sum.elim (fun v1 =>
   (f_wr σ 167 1 (0 : Int32) v1).bind fun m2 =>
   some ((0 : Int32), m2)
  ) (fun k1 => (f_hc [(1, 1)] k1).bind fun v => some (v, σ)) t1
set_option maxRecDepth 4000 in
def g_291 (a1 : Int32) (a2 : Int32) (a3 : Int32) (σ : f_M) : Option (Int32 × f_M) :=
  (g_46 (a1).toInt64 (1 : Int64) (24 : Int64) σ).bind fun t1 =>
  (
   if t1 = false then (
    some false
   ) else (
    (g_46 (a2).toInt64 (1 : Int64) (500 : Int64) σ).bind fun t3 =>
    if t3 = false then (
     some false
    ) else (
     (g_46 (a3).toInt64 (0 : Int64) (50 : Int64) σ).bind fun t4 =>
     if t4 = false then (
      some false
     ) else (
      some true
     )
    )
   )
  ).bind fun (t2 : Bool) =>
  (g_176 t2 true true σ).bind fun t8 =>
  (
   if t8.1 = false then (
    some (0 : Int32)
   ) else (
    (g_151 a1 a2 a3 t8.2).bind fun t10 =>
    some t10
   )
  ).bind fun (t9 : Int32) =>
  some (t9, t8.2)
set_option maxRecDepth 4000 in
def g_292 (a1 : Int32) (σ : f_M) : Option (Int32) :=
  (f_rd σ 124 20 a1).bind fun v1 =>
  if v1 = 0 then (
   (f_rd σ 120 20 a1).bind fun v2 =>
   (f_rd σ 107 3 v2).bind fun v3 =>
   (g_85 v3 σ).bind fun t4 =>
   (f_lp (fun (s5 : Int32 × Int32) =>
    if a1 < s5.2 then (
     some (.inr s5.1)
    ) else (
     (g_83 s5.2 v2 σ).bind fun t6 =>
     (
      if t6 = false then (
       some s5.1
      ) else (
       (f_rd σ 125 20 s5.2).bind fun v8 =>
       some (s5.1 + (t4 - v8))
      )
     ).bind fun (t7 : Int32) =>
     some (.inl (t7, (s5.2 + (1 : Int32))))
    )
   ) f_F ((0 : Int32), (0 : Int32))).bind fun (x5 : Int32) =>
   some x5
  ) else (
   some (0 : Int32)
  )
set_option maxRecDepth 4000 in
def g_293 (a1 : Int32) (σ : f_M) : Option (Int32 ⊕ Fin 4) :=
  (g_230 a1 σ).bind fun t1 => Sum.elim (fun _ =>
   (g_292 a1 σ).bind fun t2 =>
   some (.inl t2)
  ) (fun k1 => some (.inr k1)) t1
set_option maxRecDepth 4000 in
def g_294 (a1 : Int32) (σ : f_M) : Option (Int32 × f_M) :=
  (g_293 a1 σ).bind fun t1 => Sum.elim (fun v1 =>
   (f_wr σ 167 1 (0 : Int32) v1).bind fun m2 =>
   some ((0 : Int32), m2)
  ) (fun k1 => (f_hc [(0, 1)] k1).bind fun v => some (v, σ)) t1
set_option maxRecDepth 4000 in
def g_295 (a1 : Int32) (σ : f_M) : Option (Int32 × f_M) :=
  (g_233 a1 σ).bind fun t1 =>
  (g_176 t1 true true σ).bind fun t2 =>
  if t2.1 = true then (
   (g_126 a1 t2.2).bind fun t3 =>
   (f_rd t2.2 156 2420 (t3 + (3 : Int32))).bind fun v4 =>
   if v4 = 0 then (
    (g_126 a1 t2.2).bind fun t5 =>
    (f_rd t2.2 156 2420 (t5 + (1 : Int32))).bind fun v6 =>
    (f_lp (fun (s7 : Int32 × Int32) =>
     if a1 < s7.2 then (
      some (.inr s7.1)
     ) else (
      (g_127 s7.2 v6 t2.2).bind fun t8 =>
      (
       if t8 = false then (
        some (0 : Int32)
       ) else (
        (g_129 v6 t2.2).bind fun t10 =>
        (g_126 s7.2 t2.2).bind fun t11 =>
        (f_rd t2.2 156 2420 (t11 + (2 : Int32))).bind fun v12 =>
        some (t10 - v12)
       )
      ).bind fun (t9 : Int32) =>
      some (.inl ((s7.1 + t9), (s7.2 + (1 : Int32))))
     )
    ) f_F ((0 : Int32), (0 : Int32))).bind fun (x7 : Int32) =>
    some (x7, t2.2)
   ) else (
    some ((0 : Int32), t2.2)
   )
  ) else (
   some ((0 : Int32), t2.2)
  )
set_option maxRecDepth 4000 in
def g_296 (a1 : Int32) (σ : f_M) : Option (Int32 × f_M) :=
  (f_rd σ 123 20 a1).bind fun v1 =>
  if v1 = 0 then (
   (g_72 128 121 σ).bind fun t2 =>
   (g_75 a1 t2).bind fun t3 =>
   (f_lp (fun (s4 : Int32 × f_M) =>
    if t3 ≤ s4.1 then (
     some (.inr ((-1 : Int32), s4.2))
    ) else (
     (g_82 128 (f_up s4.2 128 0 s4.1)).bind fun t5 =>
     (f_rd t5 130 20 a1).bind fun v6 =>
     if v6 = 0 then (
      some (.inl ((s4.1 + (1 : Int32)), t5))
     ) else (
      some (.inr (((s4.1 + (1 : Int32)) - (t5 121 0)), t5))
     )
    )
   ) f_F ((t2 121 0), t2)).bind fun (r4 : Int32 × f_M) => some r4
  ) else (
   some ((0 : Int32), σ)
  )
set_option maxRecDepth 4000 in
def g_297 (a1 : Int32) (σ : f_M) : Option ((Int32 ⊕ Fin 4) × f_M) :=
  (g_196 a1 σ).bind fun t1 => Sum.elim (fun _ =>
   (g_296 a1 σ).bind fun t2 =>
   some (.inl t2.1, t2.2)
  ) (fun k1 => some (.inr k1, σ)) t1
set_option maxRecDepth 4000 in
def g_298 (a1 : Int32) (σ : f_M) : Option (Int32 × f_M) :=
  (g_297 a1 σ).bind (f_xe (fun v1 m1 =>
   (f_wr m1 167 1 (0 : Int32) v1).bind fun m2 =>
   some ((0 : Int32), m2)
  ) (fun k1 m1 => (f_hc [(0, 1)] k1).bind fun v => some (v, m1)))
set_option maxRecDepth 4000 in
def g_299 (a1 : Int32) (a2 : Int32) (a3 : Int32) (σ : f_M) : Option (Int32 × f_M) :=
  (f_lp (fun (s1 : Int32 × Int32 × f_M) =>
   (f_rd s1.2.2 156 2420 (4 : Int32)).bind fun v2 =>
   if v2 ≤ s1.2.1 then (
    some (.inr (s1.1, s1.2.2))
   ) else (
    (g_184 s1.2.1 a1 s1.2.2).bind fun t3 =>
    (
     if t3 = false then (
      some (s1.1, s1.2.2)
     ) else (
      (f_rd s1.2.2 163 20 s1.2.1).bind fun v5 =>
      if ¬ v5 = 0 then (
       some (s1.1, s1.2.2)
      ) else (
       (g_122 s1.2.1 a2 s1.2.2).bind fun t6 =>
       if t6 = true then (
        (g_119 s1.2.1 s1.2.2).bind fun t7 =>
        (f_rd s1.2.2 156 2420 (t7 + (7 : Int32))).bind fun v8 =>
        if s1.1 < v8 then (
         (f_wr s1.2.2 163 20 s1.2.1 (1 : Int32)).bind fun m9 =>
         some (s1.1, m9)
        ) else (
         some ((s1.1 - v8), s1.2.2)
        )
       ) else (
        some (s1.1, s1.2.2)
       )
      )
     )
    ).bind fun (t4 : Int32 × f_M) =>
    some (.inl (t4.1, (s1.2.1 + (1 : Int32)), t4.2))
   )
  ) f_F (a3, (0 : Int32), σ)).bind fun (x1 : Int32 × f_M) =>
  some (x1.1, x1.2)
set_option maxRecDepth 4000 in
def g_300 (a1 : Int32) (σ : f_M) : Option (Int32 × f_M) :=
  (g_119 a1 σ).bind fun t1 =>
  (f_rd σ 156 2420 (t1 + (1 : Int32))).bind fun v2 =>
  (g_36 v2 σ).bind fun t3 =>
  (f_rd σ 156 2420 (t3 + (7 : Int32))).bind fun v4 =>
  (f_lp (fun (s5 : Int32 × f_M) =>
   if (20 : Int32) ≤ s5.1 then (
    some (.inr s5.2)
   ) else (
    (f_wr s5.2 163 20 s5.1 (0 : Int32)).bind fun m6 =>
    some (.inl ((s5.1 + (1 : Int32)), m6))
   )
  ) f_F ((0 : Int32), σ)).bind fun (x5 : f_M) =>
  (f_rd x5 156 2420 (0 : Int32)).bind fun v8 =>
  (f_lp (fun (s9 : Int32 × Int32 × f_M) =>
   (g_121 a1 s9.2.2).bind fun t10 =>
   if t10 ≤ s9.2.1 then (
    some (.inr ((-1 : Int32), s9.2.2))
   ) else (
    if s9.2.1 = 0 then (
     some (.inl (s9.1, (s9.2.1 + (1 : Int32)), s9.2.2))
    ) else (
     if (s9.2.1 - s9.2.1 / (24 : Int32) * (24 : Int32)) = 0 then (
      (g_299 v2 s9.2.1 s9.1 s9.2.2).bind fun t11 =>
      (f_rd t11.2 163 20 a1).bind fun v12 =>
      if v12 = 0 then (
       some (.inl (t11.1, (s9.2.1 + (1 : Int32)), t11.2))
      ) else (
       (f_rd t11.2 156 2420 (0 : Int32)).bind fun v13 =>
       some (.inr (((s9.2.1 + (1 : Int32)) - v13), t11.2))
      )
     ) else (
      some (.inl (s9.1, (s9.2.1 + (1 : Int32)), s9.2.2))
     )
    )
   )
  ) f_F (v4, v8, x5)).bind fun (r9 : Int32 × f_M) => some r9
set_option maxRecDepth 4000 in
def g_301 (a1 : Int32) (σ : f_M) : Option (Int32 × f_M) :=
  (g_142 a1 σ).bind fun t1 =>
  (g_176 t1 true true σ).bind fun t2 =>
  if t2.1 = true then (
   (g_120 a1 t2.2).bind fun t3 =>
   (
    if t3 = false then (
     (g_300 a1 t2.2).bind fun t5 =>
     some (t5.1, t5.2)
    ) else (
     some ((0 : Int32), t2.2)
    )
   ).bind fun (t4 : Int32 × f_M) =>
   some (t4.1, t4.2)
  ) else (
   some ((0 : Int32), t2.2)
  )
set_option maxRecDepth 4000 in
def g_302  (σ : f_M) : Option (Int32) :=
  (f_lp (fun (s1 : Int32 × Int32) =>
   if (σ 103 0) ≤ s1.2 then (
    some (.inr s1.1)
   ) else (
    (f_rd σ 106 8 s1.2).bind fun v2 =>
    some (.inl ((s1.1 + v2), (s1.2 + (1 : Int32))))
   )
  ) f_F ((σ 103 6), (0 : Int32))).bind fun (x1 : Int32) =>
  some x1
set_option maxRecDepth 4000 in
def g_303  (σ : f_M) : Option (Bool) :=
  (f_lp (fun (s1 : Int32 × Int32) =>
   if (σ 103 0) ≤ s1.2 then (
    some (.inr s1.1)
   ) else (
    (f_rd σ 122 8 s1.2).bind fun v2 =>
    some (.inl ((s1.1 + v2), (s1.2 + (1 : Int32))))
   )
  ) f_F ((σ 121 1), (0 : Int32))).bind fun (x1 : Int32) =>
  (g_302  σ).bind fun t4 =>
  (
   if ¬ x1 = (t4 + (σ 121 14)) then (
    some false
   ) else (
    some true
   )
  ).bind fun (t5 : Bool) =>
  some t5
set_option maxRecDepth 4000 in
def g_304  (σ : f_M) : Option (Bool) :=
  (f_lp (fun (s1 : Int32 × Int32 × Int32) =>
   if (σ 121 5) ≤ s1.2.2 then (
    if ¬ s1.1 = (σ 121 10) then (
     some (.inr false)
    ) else (
     if ¬ s1.2.1 = (σ 121 11) then (
      some (.inr false)
     ) else (
      some (.inr true)
     )
    )
   ) else (
    (f_rd σ 124 20 s1.2.2).bind fun v4 =>
    (
     if v4 = (2 : Int32) then (
      some true
     ) else (
      if ¬ v4 = (3 : Int32) then (
       some false
      ) else (
       some true
      )
     )
    ).bind fun (t5 : Bool) =>
    if t5 = true then (
     (f_rd σ 126 20 s1.2.2).bind fun v8 =>
     (
      if v8 ≤ 0 then (
       some false
      ) else (
       some true
      )
     ).bind fun (t9 : Bool) =>
     if (f_b t5) = (f_b t9) then (
      (
       if t5 = false then (
        some false
       ) else (
        some true
       )
      ).bind fun (t11 : Bool) =>
      (
       if ¬ v4 = (3 : Int32) then (
        some false
       ) else (
        some true
       )
      ).bind fun (t13 : Bool) =>
      some (.inl ((s1.1 + (f_b t11)), (s1.2.1 + (f_b t13)), (s1.2.2 + (1 : Int32))))
     ) else (
      some (.inr false)
     )
    ) else (
     if v4 = 0 then (
      (f_rd σ 126 20 s1.2.2).bind fun v16 =>
      (
       if v16 ≤ 0 then (
        some false
       ) else (
        some true
       )
      ).bind fun (t17 : Bool) =>
      if (f_b t5) = (f_b t17) then (
       (
        if t5 = false then (
         some false
        ) else (
         some true
        )
       ).bind fun (t19 : Bool) =>
       (
        if ¬ v4 = (3 : Int32) then (
         some false
        ) else (
         some true
        )
       ).bind fun (t21 : Bool) =>
       some (.inl ((s1.1 + (f_b t19)), (s1.2.1 + (f_b t21)), (s1.2.2 + (1 : Int32))))
      ) else (
       some (.inr false)
      )
     ) else (
      if v4 = (1 : Int32) then (
       (f_rd σ 126 20 s1.2.2).bind fun v24 =>
       (
        if v24 ≤ 0 then (
         some false
        ) else (
         some true
        )
       ).bind fun (t25 : Bool) =>
       if (f_b t5) = (f_b t25) then (
        (
         if t5 = false then (
          some false
         ) else (
          some true
         )
        ).bind fun (t27 : Bool) =>
        (
         if ¬ v4 = (3 : Int32) then (
          some false
         ) else (
          some true
         )
        ).bind fun (t29 : Bool) =>
        some (.inl ((s1.1 + (f_b t27)), (s1.2.1 + (f_b t29)), (s1.2.2 + (1 : Int32))))
       ) else (
        some (.inr false)
       )
      ) else (
       some (.inr false)
      )
     )
    )
   )
  ) f_F ((0 : Int32), (0 : Int32), (0 : Int32))).bind fun (r1 : Bool) => some r1
set_option maxRecDepth 4000 in
def g_305  (σ : f_M) : Option (Bool) :=
  (f_lp (fun (s1 : Int32) =>
   if (σ 121 5) ≤ s1 then (
    some (.inr true)
   ) else (
    (f_lp (fun (s2 : Int32) =>
     if s1 ≤ s2 then (
      some (.inr (.inl ()))
     ) else (
      (f_rd σ 119 20 s2).bind fun v3 =>
      (f_rd σ 119 20 s1).bind fun v4 =>
      (g_103 v3 v4 σ).bind fun t5 =>
      if t5 = false then (
       some (.inl (s2 + (1 : Int32)))
      ) else (
       some (.inr (.inr false))
      )
     )
    ) f_F (0 : Int32)).bind fun (y2 : (Unit) ⊕ (Bool)) => Sum.elim (fun x2 =>
     some (.inl (s1 + (1 : Int32)))
    ) (fun r2 => some (.inr r2)) y2
   )
  ) f_F (1 : Int32)).bind fun (r1 : Bool) => some r1
set_option maxRecDepth 4000 in
def g_306 (a1 : Int32) (σ : f_M) : Option (f_M) :=
  (f_lp (fun (s1 : Int32 × f_M) =>
   if s1.1 ≤ 0 then (
    some (.inr (s1.1, s1.2))
   ) else (
    (f_rd s1.2 43 24 (s1.1 - (1 : Int32))).bind fun v2 =>
    if v2 ≤ a1 then (
     some (.inr (s1.1, s1.2))
    ) else (
     (f_rd s1.2 43 24 (s1.1 - (1 : Int32))).bind fun v3 =>
     (f_wr s1.2 43 24 s1.1 v3).bind fun m4 =>
     some (.inl ((s1.1 + (-1 : Int32)), m4))
    )
   )
  ) f_F ((σ 42 1), σ)).bind fun (x1 : Int32 × f_M) =>
  (f_wr x1.2 43 24 x1.1 a1).bind fun m7 =>
  some (f_up m7 42 1 ((m7 42 1) + (1 : Int32)))
set_option maxRecDepth 4000 in
def g_307  (σ : f_M) : Option (Int32) :=
  (f_lp (fun (s1 : Int32 × Int32) =>
   if (σ 42 1) ≤ s1.2 then (
    some (.inr s1.1)
   ) else (
    (f_rd σ 43 24 s1.2).bind fun v2 =>
    some (.inl ((s1.1 + v2), (s1.2 + (1 : Int32))))
   )
  ) f_F ((0 : Int32), (0 : Int32))).bind fun (x1 : Int32) =>
  some x1
set_option maxRecDepth 4000 in
def g_308 (a1 : Int32) (σ : f_M) : Option (Int32) :=
  (f_lp (fun (s1 : Int32) =>
   if (σ 42 1) ≤ s1 then (
    some (.inr s1)
   ) else (
    (f_rd σ 43 24 s1).bind fun v2 =>
    if a1 ≤ v2 then (
     some (.inr s1)
    ) else (
     some (.inl (s1 + (1 : Int32)))
    )
   )
  ) f_F (0 : Int32)).bind fun (x1 : Int32) =>
  some x1
set_option maxRecDepth 4000 in
def g_309 (a2 : Int32) (a3 : Int32) (σ : f_M) : Option (Int32 × f_M) :=
  (g_75 a2 (f_up σ 42 1 (0 : Int32))).bind fun t1 =>
  (f_rd (f_up σ 42 1 (0 : Int32)) 113 20 a2).bind fun v2 =>
  (f_lp (fun (s3 : Int32 × f_M) =>
   if (f_min a3 t1) ≤ s3.1 then (
    some (.inr s3.2)
   ) else (
    if (24 : Int32) ≤ (s3.2 42 1) then (
     some (.inr s3.2)
    ) else (
     (f_rd s3.2 111 20 a2).bind fun v4 =>
     (
      if v4 = 0 then (
       (f_rd s3.2 110 1000 s3.1).bind fun v6 =>
       some v6
      ) else (
       (f_rd s3.2 109 1000 s3.1).bind fun v7 =>
       some v7
      )
     ).bind fun (t5 : Int32) =>
     (g_306 t5 s3.2).bind fun t9 =>
     some (.inl ((s3.1 + (1 : Int32)), t9))
    )
   )
  ) f_F (v2, (f_up σ 42 1 (0 : Int32)))).bind fun (x3 : f_M) =>
  (f_rd x3 111 20 a2).bind fun v12 =>
  if ¬ v12 = 0 then (
   (f_rd x3 116 20 a2).bind fun v13 =>
   (g_308 v13 x3).bind fun t14 =>
   (f_rd x3 117 20 a2).bind fun v15 =>
   (g_308 (v15 + (1 : Int32)) x3).bind fun t16 =>
   (g_86 a2 (t14 + ((x3 42 1) - t16)) x3).bind fun t17 =>
   some (t17, x3)
  ) else (
   (g_307  x3).bind fun t18 =>
   (g_87 a2 t18 x3).bind fun t19 =>
   some (t19, x3)
  )
set_option maxRecDepth 4000 in
def g_310  (σ : f_M) : Option (Bool × f_M) :=
  (f_lp (fun (s1 : Int32 × f_M) =>
   if (s1.2 121 3) ≤ s1.1 then (
    some (.inr (true, s1.2))
   ) else (
    (g_309 s1.1 (s1.2 121 0) s1.2).bind fun t2 =>
    (g_88 s1.1 (t2.2 121 0) t2.2).bind fun t3 =>
    if t2.1 = t3 then (
     some (.inl ((s1.1 + (1 : Int32)), t2.2))
    ) else (
     some (.inr (false, t2.2))
    )
   )
  ) f_F ((0 : Int32), σ)).bind fun (r1 : Bool × f_M) => some r1
set_option maxRecDepth 4000 in
def g_311  (σ : f_M) : Option (Bool) :=
  (f_lp (fun (s1 : Int32 × Int32) =>
   if (σ 103 0) ≤ s1.2 then (
    some (.inr s1.1)
   ) else (
    (g_275 s1.2 σ).bind fun t2 =>
    some (.inl ((s1.1 + t2), (s1.2 + (1 : Int32))))
   )
  ) f_F ((0 : Int32), (0 : Int32))).bind fun (x1 : Int32) =>
  (
   if ¬ x1 = (σ 121 13) then (
    some false
   ) else (
    some true
   )
  ).bind fun (t4 : Bool) =>
  some t4
set_option maxRecDepth 4000 in
def g_312  (σ : f_M) : Option (Bool × f_M) :=
  (g_303  σ).bind fun t1 =>
  (
   if t1 = false then (
    some (false, σ)
   ) else (
    (g_304  σ).bind fun t3 =>
    if t3 = false then (
     some (false, σ)
    ) else (
     (g_305  σ).bind fun t4 =>
     if t4 = false then (
      some (false, σ)
     ) else (
      (g_310  σ).bind fun t5 =>
      if t5.1 = false then (
       some (false, t5.2)
      ) else (
       (g_311  t5.2).bind fun t6 =>
       if t6 = false then (
        some (false, t5.2)
       ) else (
        some (true, t5.2)
       )
      )
     )
    )
   )
  ).bind fun (t2 : Bool × f_M) =>
  some (t2.1, t2.2)
set_option maxRecDepth 4000 in
def g_313  (σ : f_M) : Option (Bool × f_M) :=
  (g_312  σ).bind fun t1 =>
  some (t1.1, t1.2)
set_option maxRecDepth 4000 in
def g_314  (σ : f_M) : Option (Bool) :=
  (f_lp (fun (s1 : Int32) =>
   (f_rd σ 156 2420 (5 : Int32)).bind fun v2 =>
   if v2 ≤ s1 then (
    some (.inr (.inl ()))
   ) else (
    (f_lp (fun (s3 : Int32) =>
     if s1 ≤ s3 then (
      some (.inr (.inl ()))
     ) else (
      (g_126 s1 σ).bind fun t4 =>
      (f_rd σ 156 2420 (t4 + (0 : Int32))).bind fun v5 =>
      (g_126 s3 σ).bind fun t6 =>
      (f_rd σ 156 2420 (t6 + (0 : Int32))).bind fun v7 =>
      (g_143 v5 v7 σ).bind fun t8 =>
      if t8 = false then (
       some (.inl (s3 + (1 : Int32)))
      ) else (
       some (.inr (.inr false))
      )
     )
    ) f_F (0 : Int32)).bind fun (y3 : (Unit) ⊕ (Bool)) => Sum.elim (fun x3 =>
     some (.inl (s1 + (1 : Int32)))
    ) (fun r3 => some (.inr (.inr r3))) y3
   )
  ) f_F (0 : Int32)).bind fun (y1 : (Unit) ⊕ (Bool)) => Sum.elim (fun x1 =>
   (g_283 (1 : Int32) σ).bind fun t12 =>
   (g_283 (2 : Int32) σ).bind fun t13 =>
   (g_283 (3 : Int32) σ).bind fun t14 =>
   (f_rd σ 156 2420 (10 : Int32)).bind fun v15 =>
   (
    if ¬ ((t12 + t13) + t14) = v15 then (
     some false
    ) else (
     (g_283 (0 : Int32) σ).bind fun t17 =>
     (f_rd σ 156 2420 (5 : Int32)).bind fun v18 =>
     if ¬ (((t12 + t13) + t14) + t17) = v18 then (
      some false
     ) else (
      some true
     )
    )
   ).bind fun (t16 : Bool) =>
   some t16
  ) (fun r1 => some r1) y1
set_option maxRecDepth 4000 in
def g_315 (a1 : Int32) (a2 : Int32) (σ : f_M) : Option (Int32 × f_M) :=
  (g_119 a1 σ).bind fun t1 =>
  (f_rd σ 156 2420 (t1 + (2 : Int32))).bind fun v2 =>
  (f_lp (fun (s3 : Int32 × Int32 × f_M) =>
   (g_130 a1 s3.2.2).bind fun t4 =>
   if t4 ≤ s3.2.1 then (
    some (.inr (s3.1, s3.2.2))
   ) else (
    (f_rd s3.2.2 156 2420 (a2 + s3.2.1)).bind fun v5 =>
    (f_lp (fun (s6 : Int32 × f_M) =>
     if s6.1 ≤ 0 then (
      some (.inr (s6.1, s6.2))
     ) else (
      (f_rd s6.2 164 24 (s6.1 - (1 : Int32))).bind fun v7 =>
      if v7 ≤ v5 then (
       some (.inr (s6.1, s6.2))
      ) else (
       (f_rd s6.2 164 24 (s6.1 - (1 : Int32))).bind fun v8 =>
       (f_wr s6.2 164 24 s6.1 v8).bind fun m9 =>
       some (.inl ((s6.1 + (-1 : Int32)), m9))
      )
     )
    ) f_F (s3.1, s3.2.2)).bind fun (x6 : Int32 × f_M) =>
    (f_wr x6.2 164 24 x6.1 v5).bind fun m12 =>
    some (.inl ((s3.1 + (1 : Int32)), (s3.2.1 + (1 : Int32)), m12))
   )
  ) f_F ((0 : Int32), v2, σ)).bind fun (x3 : Int32 × f_M) =>
  some (x3.1, x3.2)
set_option maxRecDepth 4000 in
def g_316 (a1 : Int32) (σ : f_M) : Option (Int32 × f_M) :=
  (g_119 a1 σ).bind fun t1 =>
  (f_rd σ 156 2420 (t1 + (0 : Int32))).bind fun v2 =>
  (
   if ¬ v2 = 0 then (
    some false
   ) else (
    some true
   )
  ).bind fun (t3 : Bool) =>
  (
   if t3 = false then (
    some (1420 : Int32)
   ) else (
    some (420 : Int32)
   )
  ).bind fun (t5 : Int32) =>
  (g_315 a1 t5 σ).bind fun t7 =>
  (f_lp (fun (s8 : Int32 × Int32) =>
   if s8.2 < 0 then (
    some (.inr s8.1)
   ) else (
    (g_119 a1 t7.2).bind fun t9 =>
    (f_rd t7.2 156 2420 (t9 + (5 : Int32))).bind fun v10 =>
    (g_119 a1 t7.2).bind fun t11 =>
    (f_rd t7.2 156 2420 (t11 + (6 : Int32))).bind fun v12 =>
    (
     if t3 = false then (
      (f_rd t7.2 164 24 s8.2).bind fun v14 =>
      some v14
     ) else (
      (f_rd t7.2 164 24 s8.2).bind fun v15 =>
      (
       if v15 < v10 then (
        some true
       ) else (
        (f_rd t7.2 164 24 s8.2).bind fun v17 =>
        if v17 ≤ v12 then (
         some false
        ) else (
         some true
        )
       )
      ).bind fun (t16 : Bool) =>
      (g_131 t16 t7.2).bind fun t20 =>
      some t20
     )
    ).bind fun (t13 : Int32) =>
    some (.inl ((s8.1 + t13), (s8.2 + (-1 : Int32))))
   )
  ) f_F ((0 : Int32), (t7.1 - (1 : Int32)))).bind fun (x8 : Int32) =>
  some (x8, t7.2)
set_option maxRecDepth 4000 in
def g_317  (σ : f_M) : Option (Bool × f_M) :=
  (f_lp (fun (s1 : Int32 × f_M) =>
   (f_rd s1.2 156 2420 (4 : Int32)).bind fun v2 =>
   if v2 ≤ s1.1 then (
    some (.inr (true, s1.2))
   ) else (
    (g_119 s1.1 s1.2).bind fun t3 =>
    (f_rd s1.2 156 2420 (t3 + (0 : Int32))).bind fun v4 =>
    (
     if ¬ v4 = 0 then (
      (g_133 s1.1 s1.2).bind fun t6 =>
      some t6
     ) else (
      (g_132 s1.1 s1.2).bind fun t7 =>
      some t7
     )
    ).bind fun (t5 : Int32) =>
    (g_316 s1.1 s1.2).bind fun t9 =>
    if t9.1 = t5 then (
     some (.inl ((s1.1 + (1 : Int32)), t9.2))
    ) else (
     some (.inr (false, t9.2))
    )
   )
  ) f_F ((0 : Int32), σ)).bind fun (r1 : Bool × f_M) => some r1
set_option maxRecDepth 4000 in
def g_318  (σ : f_M) : Option (Bool × f_M) :=
  (g_39  (f_up σ 155 6 (0 : Int32))).bind fun t1 =>
  (f_rd (f_up σ 155 6 (0 : Int32)) 156 2420 (9 : Int32)).bind fun v2 =>
  (f_rd (f_up σ 155 6 (0 : Int32)) 156 2420 (8 : Int32)).bind fun v3 =>
  (
   if ¬ t1 = (v2 + v3) then (
    some false
   ) else (
    some true
   )
  ).bind fun (t4 : Bool) =>
  (
   if t4 = false then (
    some (false, (f_up σ 155 6 (0 : Int32)))
   ) else (
    (g_267 (3 : Int32) (f_up σ 155 6 (0 : Int32))).bind fun t7 =>
    (f_rd (f_up σ 155 6 (0 : Int32)) 156 2420 (7 : Int32)).bind fun v8 =>
    if ¬ t7 = v8 then (
     some (false, (f_up σ 155 6 (0 : Int32)))
    ) else (
     (g_314  (f_up σ 155 6 (0 : Int32))).bind fun t9 =>
     if t9 = false then (
      some (false, (f_up σ 155 6 (0 : Int32)))
     ) else (
      (g_317  (f_up σ 155 6 (0 : Int32))).bind fun t10 =>
      if t10.1 = false then (
       some (false, t10.2)
      ) else (
       some (true, t10.2)
      )
     )
    )
   )
  ).bind fun (t6 : Bool × f_M) =>
  some (t6.1, t6.2)
set_option maxRecDepth 4000 in
def g_319 (a1 : Int32) (a2 : Int32) (σ : f_M) : Option ((Int32 ⊕ Fin 4) × f_M) :=
  (g_285 a1 (0 : Int32) (150 : Int32) σ).bind fun t1 => Sum.elim (fun _ =>
   (g_285 a2 (0 : Int32) (50 : Int32) σ).bind fun t2 => Sum.elim (fun _ =>
    (g_74 (1 : Int32) σ).bind fun t3 =>
    if t3 = true then (
     (g_73  σ).bind fun t4 =>
     (g_94 a1 a2 t4).bind fun t5 =>
     some (.inl t5.1, t5.2)
    ) else (
     some (.inr 2, σ)
    )
   ) (fun k2 => some (.inr k2, σ)) t2
  ) (fun k1 => some (.inr k1, σ)) t1
set_option maxRecDepth 4000 in
def g_320 (a1 : Int32) (a2 : Int32) (σ : f_M) : Option (Int32 × f_M) :=
  (g_319 a1 a2 σ).bind (f_xe (fun v1 m1 =>
   (f_wr m1 167 1 (0 : Int32) v1).bind fun m2 =>
   some ((0 : Int32), m2)
  ) (fun k1 m1 => (f_hc [(1, 1), (2, 2)] k1).bind fun v => some (v, m1)))
set_option maxRecDepth 4000 in
def g_321 (a1 : Int32) (a2 : Int32) (σ : f_M) : Option (Int32 × f_M) :=
  (g_46 (a1).toInt64 (0 : Int64) (150 : Int64) σ).bind fun t1 =>
  (
   if t1 = false then (
    some false
   ) else (
    (g_46 (a2).toInt64 (0 : Int64) (50 : Int64) σ).bind fun t3 =>
    if t3 = false then (
     some false
    ) else (
     some true
    )
   )
  ).bind fun (t2 : Bool) =>
  (f_rd σ 156 2420 (0 : Int32)).bind fun v6 =>
  (
   if (1000 : Int32) ≤ v6 then (
    some false
   ) else (
    some true
   )
  ).bind fun (t7 : Bool) =>
  (g_176 t2 t7 true σ).bind fun t9 =>
  if t9.1 = true then (
   (g_118  t9.2).bind fun t10 =>
   (g_140 a1 a2 t10).bind fun t11 =>
   some (t11.1, t11.2)
  ) else (
   some ((0 : Int32), t9.2)
  )
set_option maxRecDepth 4000 in
def g_322 (a1 : Int32) (a2 : Int32) (a3 : Int32) (σ : f_M) : Option (Unit ⊕ Fin 4) :=
  (g_285 a1 (σ 121 0) (1000 : Int32) σ).bind fun t1 => Sum.elim (fun _ =>
   (g_285 a2 (1 : Int32) (24 : Int32) σ).bind fun t2 => Sum.elim (fun _ =>
    (g_285 a3 (1 : Int32) (500 : Int32) σ).bind fun t3 => Sum.elim (fun _ =>
     some (.inl ())
    ) (fun k3 => some (.inr k3)) t3
   ) (fun k2 => some (.inr k2)) t2
  ) (fun k1 => some (.inr k1)) t1
set_option maxRecDepth 4000 in
def g_323 (a1 : Int32) (a2 : Int32) (σ : f_M) : Option (Unit ⊕ Fin 4) :=
  (g_96 a1 a2 σ).bind fun t1 =>
  if t1 = true then (
   some (.inl ())
  ) else (
   some (.inr 2)
  )
set_option maxRecDepth 4000 in
def g_324 (a1 : Int32) (a2 : Int32) (a3 : Int32) (a4 : Int32) (a5 : Int32) (a6 : Int32) (σ : f_M) : Option ((Int32 ⊕ Fin 4) × f_M) :=
  (g_172 a1 σ).bind fun t1 => Sum.elim (fun _ =>
   (g_322 a2 a3 a4 σ).bind fun t2 => Sum.elim (fun _ =>
    (g_285 a5 (0 : Int32) (150 : Int32) σ).bind fun t3 => Sum.elim (fun _ =>
     (g_285 a6 a5 (150 : Int32) σ).bind fun t4 => Sum.elim (fun _ =>
      (g_77 a3 a4 σ).bind fun t5 =>
      (g_323 a1 t5 σ).bind fun t6 => Sum.elim (fun _ =>
       (g_73  σ).bind fun t7 =>
       (g_99 a1 a2 a3 a4 a5 a6 t7).bind fun t8 =>
       some (.inl t8.1, t8.2)
      ) (fun k6 => some (.inr k6, σ)) t6
     ) (fun k4 => some (.inr k4, σ)) t4
    ) (fun k3 => some (.inr k3, σ)) t3
   ) (fun k2 => some (.inr k2, σ)) t2
  ) (fun k1 => some (.inr k1, σ)) t1
set_option maxRecDepth 4000 in
def g_325 (a1 : Int32) (a2 : Int32) (a3 : Int32) (a4 : Int32) (a5 : Int32) (a6 : Int32) (σ : f_M) : Option (Int32 × f_M) :=
  (g_324 a1 a2 a3 a4 a5 a6 σ).bind (f_xe (fun v1 m1 =>
   (f_wr m1 167 1 (0 : Int32) v1).bind fun m2 =>
   some ((0 : Int32), m2)
  ) (fun k1 m1 => (f_hc [(0, 1), (1, 2), (2, 3)] k1).bind fun v => some (v, m1)))
set_option maxRecDepth 4000 in
def g_326 (a1 : Int32) (a2 : Int32) (a3 : Int32) (σ : f_M) : Option (Bool) :=
  (f_rd σ 156 2420 (0 : Int32)).bind fun v1 =>
  (g_46 (a1).toInt64 (v1).toInt64 (1000 : Int64) σ).bind fun t2 =>
  (
   if t2 = false then (
    some false
   ) else (
    (g_46 (a2).toInt64 (1 : Int64) (24 : Int64) σ).bind fun t4 =>
    if t4 = false then (
     some false
    ) else (
     (g_46 (a3).toInt64 (1 : Int64) (500 : Int64) σ).bind fun t5 =>
     if t5 = false then (
      some false
     ) else (
      some true
     )
    )
   )
  ).bind fun (t3 : Bool) =>
  some t3
set_option maxRecDepth 4000 in
def g_327 (a1 : Int32) (a2 : Int32) (a3 : Int32) (a4 : Int32) (a5 : Int32) (a6 : Int32) (σ : f_M) : Option (Int32 × f_M) :=
  (g_175 a1 σ).bind fun t1 =>
  (g_326 a2 a3 a4 σ).bind fun t2 =>
  (
   if t2 = false then (
    some false
   ) else (
    (g_46 (a5).toInt64 (0 : Int64) (150 : Int64) σ).bind fun t4 =>
    if t4 = false then (
     some false
    ) else (
     (g_46 (a6).toInt64 (a5).toInt64 (150 : Int64) σ).bind fun t5 =>
     if t5 = false then (
      some false
     ) else (
      some true
     )
    )
   )
  ).bind fun (t3 : Bool) =>
  (
   if t1 = false then (
    some false
   ) else (
    if t3 = false then (
     some false
    ) else (
     (g_150 a3 a4 σ).bind fun t10 =>
     (g_152 a1 t10 σ).bind fun t11 =>
     if t11 = false then (
      some false
     ) else (
      some true
     )
    )
   )
  ).bind fun (t9 : Bool) =>
  (g_176 t1 t3 t9 σ).bind fun t15 =>
  if t15.1 = true then (
   (g_118  t15.2).bind fun t16 =>
   (g_154 a1 a2 a3 a4 a5 a6 t16).bind fun t17 =>
   (g_156  t17).bind fun t18 =>
   some (t18.1, t18.2)
  ) else (
   some ((0 : Int32), t15.2)
  )
set_option maxRecDepth 4000 in
def g_328 (a1 : Int32) (a2 : Int32) (a3 : Int32) (a4 : Int32) (a5 : Int32) (σ : f_M) : Option ((Int32 ⊕ Fin 4) × f_M) :=
  (g_172 a1 σ).bind fun t1 => Sum.elim (fun _ =>
   (g_322 a2 a3 a4 σ).bind fun t2 => Sum.elim (fun _ =>
    (g_285 a5 (0 : Int32) (50 : Int32) σ).bind fun t3 => Sum.elim (fun _ =>
     (g_78 a3 a4 a5 σ).bind fun t4 =>
     (g_323 a1 t4 σ).bind fun t5 => Sum.elim (fun _ =>
      (g_73  σ).bind fun t6 =>
      (g_101 a1 a2 a3 a4 a5 t6).bind fun t7 =>
      some (.inl t7.1, t7.2)
     ) (fun k5 => some (.inr k5, σ)) t5
    ) (fun k3 => some (.inr k3, σ)) t3
   ) (fun k2 => some (.inr k2, σ)) t2
  ) (fun k1 => some (.inr k1, σ)) t1
set_option maxRecDepth 4000 in
def g_329 (a1 : Int32) (a2 : Int32) (a3 : Int32) (a4 : Int32) (a5 : Int32) (σ : f_M) : Option (Int32 × f_M) :=
  (g_328 a1 a2 a3 a4 a5 σ).bind (f_xe (fun v1 m1 =>
   (f_wr m1 167 1 (0 : Int32) v1).bind fun m2 =>
   some ((0 : Int32), m2)
  ) (fun k1 m1 => (f_hc [(0, 1), (1, 2), (2, 3)] k1).bind fun v => some (v, m1)))
set_option maxRecDepth 4000 in
def g_330 (a1 : Int32) (a2 : Int32) (a3 : Int32) (a4 : Int32) (a5 : Int32) (σ : f_M) : Option (Int32 × f_M) :=
  (g_175 a1 σ).bind fun t1 =>
  (g_326 a2 a3 a4 σ).bind fun t2 =>
  (
   if t2 = false then (
    some false
   ) else (
    (g_46 (a5).toInt64 (0 : Int64) (50 : Int64) σ).bind fun t4 =>
    if t4 = false then (
     some false
    ) else (
     some true
    )
   )
  ).bind fun (t3 : Bool) =>
  (
   if t1 = false then (
    some false
   ) else (
    if t3 = false then (
     some false
    ) else (
     (g_151 a3 a4 a5 σ).bind fun t8 =>
     (g_152 a1 t8 σ).bind fun t9 =>
     if t9 = false then (
      some false
     ) else (
      some true
     )
    )
   )
  ).bind fun (t7 : Bool) =>
  (g_176 t1 t3 t7 σ).bind fun t13 =>
  if t13.1 = true then (
   (g_118  t13.2).bind fun t14 =>
   (g_155 a1 a2 a3 a4 a5 t14).bind fun t15 =>
   (g_156  t15).bind fun t16 =>
   some (t16.1, t16.2)
  ) else (
   some ((0 : Int32), t13.2)
  )
set_option maxRecDepth 4000 in
def g_331 (a1 : Int32) (σ : f_M) : Option ((Int32 ⊕ Fin 4) × f_M) :=
  (g_196 a1 σ).bind fun t1 => Sum.elim (fun _ =>
   (g_105 a1 σ).bind fun t2 =>
   if t2 = 0 then (
    (g_73  σ).bind fun t3 =>
    (g_109 a1 t3).bind fun t4 =>
    some (.inl t4.1, t4.2)
   ) else (
    some (.inr 2, σ)
   )
  ) (fun k1 => some (.inr k1, σ)) t1
set_option maxRecDepth 4000 in
def g_332 (a1 : Int32) (σ : f_M) : Option (Int32 × f_M) :=
  (g_331 a1 σ).bind (f_xe (fun v1 m1 =>
   (f_wr m1 167 1 (0 : Int32) v1).bind fun m2 =>
   some ((0 : Int32), m2)
  ) (fun k1 m1 => (f_hc [(0, 1), (2, 2)] k1).bind fun v => some (v, m1)))
set_option maxRecDepth 4000 in
def g_333 (a1 : Int32) (σ : f_M) : Option (Int32 × f_M) :=
  (g_142 a1 σ).bind fun t1 =>
  (
   if t1 = false then (
    some false
   ) else (
    (g_145 a1 σ).bind fun t3 =>
    if ¬ t3 = 0 then (
     some false
    ) else (
     some true
    )
   )
  ).bind fun (t2 : Bool) =>
  (g_176 t1 t2 true σ).bind fun t6 =>
  if t6.1 = true then (
   (g_118  t6.2).bind fun t7 =>
   (g_148 a1 t7).bind fun t8 =>
   some (t8.1, t8.2)
  ) else (
   some ((0 : Int32), t6.2)
  )
set_option maxRecDepth 4000 in
def g_334 (a1 : Int32) (a2 : Int32) (σ : f_M) : Option ((Int32 ⊕ Fin 4) × f_M) :=
  (g_172 a1 σ).bind fun t1 => Sum.elim (fun _ =>
   (g_285 a2 (1 : Int32) (999 : Int32) σ).bind fun t2 => Sum.elim (fun _ =>
    (g_73  σ).bind fun t3 =>
    (g_111 a1 a2 t3).bind fun t4 =>
    some (.inl t4.1, t4.2)
   ) (fun k2 => some (.inr k2, σ)) t2
  ) (fun k1 => some (.inr k1, σ)) t1
set_option maxRecDepth 4000 in
def g_335 (a1 : Int32) (a2 : Int32) (σ : f_M) : Option (Int32 × f_M) :=
  (g_334 a1 a2 σ).bind (f_xe (fun v1 m1 =>
   (f_wr m1 167 1 (0 : Int32) v1).bind fun m2 =>
   some ((0 : Int32), m2)
  ) (fun k1 m1 => (f_hc [(0, 1), (1, 2)] k1).bind fun v => some (v, m1)))
set_option maxRecDepth 4000 in
def g_336 (a1 : Int32) (a2 : Int32) (σ : f_M) : Option (Int32 × f_M) :=
  (g_175 a1 σ).bind fun t1 =>
  (g_46 (a2).toInt64 (1 : Int64) (999 : Int64) σ).bind fun t2 =>
  (g_176 t1 t2 true σ).bind fun t3 =>
  if t3.1 = true then (
   (g_118  t3.2).bind fun t4 =>
   (g_149 a1 a2 t4).bind fun t5 =>
   some (t5.1, t5.2)
  ) else (
   some ((0 : Int32), t3.2)
  )
set_option maxRecDepth 4000 in
def g_337  (σ : f_M) : Option (Bool) :=
  (
   if ¬ (σ 44 2) = 0 then (
    some false
   ) else (
    some true
   )
  ).bind fun (t1 : Bool) =>
  some t1
set_option maxRecDepth 4000 in
def g_338  (σ : f_M) : Option (Int32 × f_M) :=
  (f_ix 8 ((((f_up σ 44 2 ((σ 44 2) - (1 : Int32))) 44 1) + ((f_up σ 44 2 ((σ 44 2) - (1 : Int32))) 44 2)) - (((f_up σ 44 2 ((σ 44 2) - (1 : Int32))) 44 1) + ((f_up σ 44 2 ((σ 44 2) - (1 : Int32))) 44 2)) / (8 : Int32) * (8 : Int32))).bind fun v1 =>
  (g_72 121 (46 + 7 * v1) (f_up σ 44 2 ((σ 44 2) - (1 : Int32)))).bind fun t2 =>
  some ((t2 44 2), t2)
set_option maxRecDepth 4000 in
def g_339  (σ : f_M) : Option ((Int32 ⊕ Fin 4) × f_M) :=
  (g_337  σ).bind fun t1 =>
  if t1 = false then (
   (g_338  σ).bind fun t2 =>
   some (.inl t2.1, t2.2)
  ) else (
   some (.inr 3, σ)
  )
set_option maxRecDepth 4000 in
def g_340  (σ : f_M) : Option (Int32 × f_M) :=
  (g_339  σ).bind (f_xe (fun v1 m1 =>
   (f_wr m1 167 1 (0 : Int32) v1).bind fun m2 =>
   some ((0 : Int32), m2)
  ) (fun k1 m1 => (f_hc [(3, 1)] k1).bind fun v => some (v, m1)))
set_option maxRecDepth 4000 in
def g_341  (σ : f_M) : Option (Int32 × f_M) :=
  (
   if (σ 155 4) ≤ 0 then (
    some false
   ) else (
    some true
   )
  ).bind fun (t1 : Bool) =>
  (g_176 t1 true true σ).bind fun t3 =>
  if t3.1 = true then (
   (f_lp (fun (s4 : Int32 × f_M) =>
    if (2420 : Int32) ≤ s4.1 then (
     some (.inr s4.2)
    ) else (
     (f_rd s4.2 159 19360 (((2420 : Int32) * (s4.2 155 4)) + s4.1)).bind fun v5 =>
     (f_wr s4.2 156 2420 s4.1 v5).bind fun m6 =>
     some (.inl ((s4.1 + (1 : Int32)), m6))
    )
   ) f_F ((0 : Int32), (f_up t3.2 155 4 ((t3.2 155 4) - (1 : Int32))))).bind fun (x4 : f_M) =>
   some ((x4 155 4), x4)
  ) else (
   some ((0 : Int32), t3.2)
  )
set_option maxRecDepth 4000 in
def g_342 (a1 : Int32) (σ : f_M) : Option (f_M) :=
  (
   if (16 : Int32) ≤ (σ 0 3) then (
    some σ
   ) else (
    (f_wr σ 2 16 (σ 0 3) ((a1).toInt8.toInt32).toInt8.toInt32).bind fun m2 =>
    some (f_up m2 0 3 ((m2 0 3) + (1 : Int32)))
   )
  ).bind fun (t1 : f_M) =>
  some t1
set_option maxRecDepth 4000 in
def g_343 (a1 : Int32) (σ : f_M) : Option (f_M) :=
  (f_lp (fun (s1 : Int32 × f_M) =>
   (f_rd s1.2 104 8 a1).bind fun v2 =>
   if v2 ≤ s1.1 then (
    some (.inr s1.2)
   ) else (
    (g_17 103 a1 s1.1 s1.2).bind fun t3 =>
    (g_342 t3 s1.2).bind fun t4 =>
    some (.inl ((s1.1 + (1 : Int32)), t4))
   )
  ) f_F ((0 : Int32), σ)).bind fun (x1 : f_M) =>
  some x1
set_option maxRecDepth 4000 in
def g_344 (a1 : Int32) (σ : f_M) : Option (f_M) :=
  (
   if a1 < (100 : Int32) then (
    some σ
   ) else (
    (g_342 ((48 : Int32) + (a1 / (100 : Int32))) σ).bind fun t2 =>
    some t2
   )
  ).bind fun (t1 : f_M) =>
  (
   if a1 < (10 : Int32) then (
    some t1
   ) else (
    (g_342 ((48 : Int32) + ((a1 / (10 : Int32)) - (a1 / (10 : Int32)) / (10 : Int32) * (10 : Int32))) t1).bind fun t5 =>
    some t5
   )
  ).bind fun (t4 : f_M) =>
  (g_342 ((48 : Int32) + (a1 - a1 / (10 : Int32) * (10 : Int32))) t4).bind fun t7 =>
  some t7
set_option maxRecDepth 4000 in
def g_345 (a1 : Int32) (σ : f_M) : Option ((Int32 ⊕ Fin 4) × f_M) :=
  (g_230 a1 σ).bind fun t1 => Sum.elim (fun _ =>
   (f_rd σ 119 20 a1).bind fun v2 =>
   (f_rd (f_up σ 0 3 (0 : Int32)) 112 20 v2).bind fun v3 =>
   (g_343 v3 (f_up σ 0 3 (0 : Int32))).bind fun t4 =>
   (g_342 (47 : Int32) t4).bind fun t5 =>
   (f_rd t5 111 20 v2).bind fun v6 =>
   (
    if v6 = 0 then (
     some (112 : Int32)
    ) else (
     some (107 : Int32)
    )
   ).bind fun (t7 : Int32) =>
   (g_342 t7 t5).bind fun t9 =>
   (f_rd t9 124 20 a1).bind fun v10 =>
   (
    if v10 = (0 : Int32) then (
     (g_342 (63 : Int32) t9).bind fun t12 =>
     some t12
    ) else
    if v10 = (1 : Int32) then (
     (g_342 (45 : Int32) t9).bind fun t14 =>
     some t14
    ) else
    if v10 = (2 : Int32) then (
     (g_342 (43 : Int32) t9).bind fun t16 =>
     (f_rd t16 126 20 a1).bind fun v17 =>
     (g_344 v17 t16).bind fun t18 =>
     some t18
    ) else
    (
     (g_342 (61 : Int32) t9).bind fun t20 =>
     (f_rd t20 126 20 a1).bind fun v21 =>
     (g_344 v21 t20).bind fun t22 =>
     some t22
    )
   ).bind fun (t11 : f_M) =>
   some (.inl (t11 0 3), t11)
  ) (fun k1 => some (.inr k1, σ)) t1
set_option maxRecDepth 4000 in
def g_346 (a1 : Int32) (σ : f_M) : Option (Int32 × f_M) :=
  (g_345 a1 σ).bind (f_xe (fun v1 m1 =>
   (f_wr m1 167 1 (0 : Int32) v1).bind fun m2 =>
   some ((0 : Int32), m2)
  ) (fun k1 m1 => (f_hc [(0, 1)] k1).bind fun v => some (v, m1)))
set_option maxRecDepth 4000 in
def g_347 (a1 : Int32) (σ : f_M) : Option (f_M) :=
  (f_wr σ 165 40 (σ 155 24) ((a1).toInt8.toInt32).toInt8.toInt32).bind fun m1 =>
  some (f_up m1 155 24 ((m1 155 24) + (1 : Int32)))
set_option maxRecDepth 4000 in
def g_348 (a1 : Int32) (σ : f_M) : Option (f_M) :=
  (f_lp (fun (s1 : Int32) =>
   if s1 = 0 then none else
   if (a1 / s1) ≤ (9 : Int32) then (
    some (.inr s1)
   ) else (
    some (.inl (s1 * (10 : Int32)))
   )
  ) f_F (1 : Int32)).bind fun (x1 : Int32) =>
  (f_lp (fun (s4 : Int32 × f_M) =>
   if s4.1 ≤ 0 then (
    some (.inr s4.2)
   ) else (
    if s4.1 = 0 then none else
    (g_347 ((48 : Int32) + ((a1 / s4.1) - (a1 / s4.1) / (10 : Int32) * (10 : Int32))) s4.2).bind fun t6 =>
    some (.inl ((s4.1 / (10 : Int32)), t6))
   )
  ) f_F (x1, σ)).bind fun (x4 : f_M) =>
  some x4
set_option maxRecDepth 4000 in
def g_349 (a1 : Int32) (σ : f_M) : Option (Int32 × f_M) :=
  (g_233 a1 σ).bind fun t1 =>
  (g_176 t1 true true σ).bind fun t2 =>
  if t2.1 = true then (
   (g_126 a1 (f_up t2.2 155 24 (0 : Int32))).bind fun t3 =>
   (f_rd (f_up t2.2 155 24 (0 : Int32)) 156 2420 (t3 + (0 : Int32))).bind fun v4 =>
   (g_119 v4 (f_up t2.2 155 24 (0 : Int32))).bind fun t5 =>
   (f_rd (f_up t2.2 155 24 (0 : Int32)) 156 2420 (t5 + (1 : Int32))).bind fun v6 =>
   (g_36 v6 (f_up t2.2 155 24 (0 : Int32))).bind fun t7 =>
   (f_lp (fun (s8 : Int32 × f_M) =>
    (f_rd s8.2 156 2420 t7).bind fun v9 =>
    if v9 ≤ s8.1 then (
     some (.inr s8.2)
    ) else (
     (f_rd s8.2 156 2420 ((t7 + (1 : Int32)) + s8.1)).bind fun v10 =>
     (g_347 v10 s8.2).bind fun t11 =>
     some (.inl ((s8.1 + (1 : Int32)), t11))
    )
   ) f_F ((0 : Int32), (f_up t2.2 155 24 (0 : Int32)))).bind fun (x8 : f_M) =>
   (g_347 (47 : Int32) x8).bind fun t13 =>
   (g_119 v4 t13).bind fun t14 =>
   (f_rd t13 156 2420 (t14 + (0 : Int32))).bind fun v15 =>
   (
    if ¬ v15 = 0 then (
     some (112 : Int32)
    ) else (
     some (107 : Int32)
    )
   ).bind fun (t16 : Int32) =>
   (g_347 t16 t13).bind fun t18 =>
   (g_126 a1 t18).bind fun t19 =>
   (f_rd t18 156 2420 (t19 + (3 : Int32))).bind fun v20 =>
   (f_ch 10 v20).bind fun v21 =>
   (g_347 v21 t18).bind fun t22 =>
   (
    if v20 = (2 : Int32) then (
     (g_126 a1 t22).bind fun t24 =>
     (f_rd t22 156 2420 (t24 + (4 : Int32))).bind fun v25 =>
     (g_348 v25 t22).bind fun t26 =>
     some t26
    ) else (
     if ¬ v20 = (3 : Int32) then (
      some t22
     ) else (
      (g_126 a1 t22).bind fun t27 =>
      (f_rd t22 156 2420 (t27 + (4 : Int32))).bind fun v28 =>
      (g_348 v28 t22).bind fun t29 =>
      some t29
     )
    )
   ).bind fun (t23 : f_M) =>
   some ((t23 155 24), t23)
  ) else (
   some ((0 : Int32), t2.2)
  )
set_option maxRecDepth 4000 in
def g_350 (a1 : Int32) (σ : f_M) : Option (Int32) :=
  (
   if a1 < 0 then (
    some (-1 : Int32)
   ) else (
    if (σ 0 3) ≤ a1 then (
     some (-1 : Int32)
    ) else (
     (f_rd σ 2 16 a1).bind fun v2 =>
     some v2
    )
   )
  ).bind fun (t1 : Int32) =>
  some t1
set_option maxRecDepth 4000 in
def g_351 (a1 : Int32) (σ : f_M) : Option (Int32 × f_M) :=
  (g_46 (a1).toInt64 (0 : Int64) ((((f_up σ 155 6 (0 : Int32)) 155 24) - (1 : Int32))).toInt64 (f_up σ 155 6 (0 : Int32))).bind fun t1 =>
  (
   if t1 = false then (
    some (-1 : Int32)
   ) else (
    (f_rd (f_up σ 155 6 (0 : Int32)) 165 40 a1).bind fun v3 =>
    some v3
   )
  ).bind fun (t2 : Int32) =>
  some (t2, (f_up σ 155 6 (0 : Int32)))
set_option maxRecDepth 4000 in
def g_352 (a0 : Nat) (a1 : Nat) (σ : f_M) : Option (f_M) :=
  (f_cp σ .int (a1 + 1) 1000 (a0 + 1) 1000 (0 : Int32) (0 : Int32) (1000 : Int32)).bind fun m1 =>
  (f_cp m1 .int (a1 + 2) 1000 (a0 + 2) 1000 (0 : Int32) (0 : Int32) (1000 : Int32)).bind fun m2 =>
  (f_lp (fun (s3 : Int32 × f_M) =>
   if (20 : Int32) ≤ s3.1 then (
    some (.inr s3.2)
   ) else (
    (f_rd s3.2 (a1 + 3) 20 s3.1).bind fun v4 =>
    (f_wr s3.2 (a0 + 3) 20 s3.1 (v4 &&& 1)).bind fun m5 =>
    some (.inl ((s3.1 + (1 : Int32)), m5))
   )
  ) f_F ((0 : Int32), m2)).bind fun (x3 : f_M) =>
  (f_cp x3 .int (a1 + 4) 20 (a0 + 4) 20 (0 : Int32) (0 : Int32) (20 : Int32)).bind fun m7 =>
  (f_cp m7 .int (a1 + 5) 20 (a0 + 5) 20 (0 : Int32) (0 : Int32) (20 : Int32)).bind fun m8 =>
  (f_cp m8 .int (a1 + 6) 20 (a0 + 6) 20 (0 : Int32) (0 : Int32) (20 : Int32)).bind fun m9 =>
  (f_cp m9 .int (a1 + 7) 20 (a0 + 7) 20 (0 : Int32) (0 : Int32) (20 : Int32)).bind fun m10 =>
  (f_cp m10 .int (a1 + 8) 20 (a0 + 8) 20 (0 : Int32) (0 : Int32) (20 : Int32)).bind fun m11 =>
  (f_cp m11 .int (a1 + 9) 20 (a0 + 9) 20 (0 : Int32) (0 : Int32) (20 : Int32)).bind fun m12 =>
  (f_cp m12 .int (a1 + 10) 20 (a0 + 10) 20 (0 : Int32) (0 : Int32) (20 : Int32)).bind fun m13 =>
  (f_cp m13 .int (a1 + 11) 20 (a0 + 11) 20 (0 : Int32) (0 : Int32) (20 : Int32)).bind fun m14 =>
  (f_cp m14 .int (a1 + 12) 20 (a0 + 12) 20 (0 : Int32) (0 : Int32) (20 : Int32)).bind fun m15 =>
  some m15
set_option maxRecDepth 4000 in
def g_353  (σ : f_M) : Option (Int32 × f_M) :=
  (g_352 135 108 σ).bind fun t1 =>
  (g_72 148 121 t1).bind fun t2 =>
  some (((f_up t2 0 15 (1 : Int32)) 121 0), (f_up t2 0 15 (1 : Int32)))
set_option maxRecDepth 4000 in
def g_354  (σ : f_M) : Option (Int32 × f_M) :=
  (g_48 158 (f_up σ 155 6 (0 : Int32))).bind fun t1 =>
  (f_rd (f_up t1 155 5 (1 : Int32)) 156 2420 (0 : Int32)).bind fun v2 =>
  some (v2, (f_up t1 155 5 (1 : Int32)))
set_option maxRecDepth 4000 in
def g_355  (σ : f_M) : Option ((Int32 ⊕ Fin 4) × f_M) :=
  (f_z (σ 0 15)).bind fun b1 =>
  if b1 = true then (
   (g_352 108 135 σ).bind fun t2 =>
   (g_72 121 148 t2).bind fun t3 =>
   (g_32  t3).bind fun t4 =>
   some (.inl (t4 121 0), t4)
  ) else (
   some (.inr 3, σ)
  )
set_option maxRecDepth 4000 in
def g_356  (σ : f_M) : Option (Int32 × f_M) :=
  (g_355  σ).bind (f_xe (fun v1 m1 =>
   (f_wr m1 167 1 (0 : Int32) v1).bind fun m2 =>
   some ((0 : Int32), m2)
  ) (fun k1 m1 => (f_hc [(3, 1)] k1).bind fun v => some (v, m1)))
set_option maxRecDepth 4000 in
def g_357  (σ : f_M) : Option (Int32 × f_M) :=
  (f_z (σ 155 5)).bind fun b1 =>
  (g_176 b1 true true σ).bind fun t2 =>
  if t2.1 = true then (
   (g_64 158 t2.2).bind fun t3 =>
   (f_rd (f_up t3 155 4 (0 : Int32)) 156 2420 (0 : Int32)).bind fun v4 =>
   some (v4, (f_up t3 155 4 (0 : Int32)))
  ) else (
   some ((0 : Int32), t2.2)
  )
