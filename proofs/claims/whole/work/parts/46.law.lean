def f_L_law_L23 (g : mm_G) (N : Nat) : Nat → Int32 → CS → CS → Option ((Int32 × CS × CS) ⊕ (CS × CS))
  | 0, _, _, _ => none
  | n + 1, x4, C, D => if ((nI (mm_sL g)) - 6) < x4 then (some (.inr (C, D)))
    else (if inb x4 (mm_sL g) = true then (if ((mm_sX g (x4).toNatClampNeg) &&& 31) = 0 then (if inb (x4 + 1) (mm_sL g) = true then (if inb (x4 + 2) (mm_sL g) = true then (if inb (x4 + 3) (mm_sL g) = true then (if inb (x4 + 4) (mm_sL g) = true then (if inb (x4 + 5) (mm_sL g) = true then (bnd (f_X11_feed N (mm_sX g ((x4 + 1)).toNatClampNeg) (mm_sX g ((x4 + 2)).toNatClampNeg) (mm_sX g ((x4 + 3)).toNatClampNeg) (mm_sX g ((x4 + 4)).toNatClampNeg) (mm_sX g ((x4 + 5)).toNatClampNeg) C) fun q9 =>
      if inb (x4 + 1) (mm_sL g) = true then (if inb (x4 + 2) (mm_sL g) = true then (if inb (x4 + 3) (mm_sL g) = true then (if inb (x4 + 4) (mm_sL g) = true then (if inb (x4 + 5) (mm_sL g) = true then (bnd (f_X12_feed N (mm_sX g ((x4 + 1)).toNatClampNeg) (mm_sX g ((x4 + 2)).toNatClampNeg) (mm_sX g ((x4 + 3)).toNatClampNeg) (mm_sX g ((x4 + 4)).toNatClampNeg) (mm_sX g ((x4 + 5)).toNatClampNeg) D) fun q16 =>
      if q9.1 = q16.1 then (f_L_law_L23 g N n (x4 + 6) q9.2 q16.2)
        else (some (.inl (0, q9.2, q16.2)))) else none) else none) else none) else none) else none) else none) else none) else none) else none) else none)
      else if ((mm_sX g (x4).toNatClampNeg) &&& 31) = 1 then (if inb (x4 + 1) (mm_sL g) = true then (bnd (f_L_sitting N (mm_sX g ((x4 + 1)).toNatClampNeg) C D) fun q21 =>
      if inb (x4 + 1) (mm_sL g) = true then (bnd (f_X12_sitting N (mm_sX g ((x4 + 1)).toNatClampNeg) q21.2.2) fun q24 =>
      bnd (f_X12_thrown q24.2) fun q26 =>
      if q26 = q21.1 then (if q21.1 = 0 then (if inb 0 1 = true then (if (lg_cmp (gB q24.2 146 (Int32.toNatClampNeg 0)) (Int32.toInt64 q24.1)) = 0 then (f_L_law_L23 g N n (x4 + 6) q21.2.1 q24.2)
            else (some (.inl (0, q21.2.1, q24.2)))) else none)
          else (f_L_law_L23 g N n (x4 + 6) q21.2.1 q24.2))
        else (some (.inl (0, q21.2.1, q24.2)))) else none) else none)
      else if ((mm_sX g (x4).toNatClampNeg) &&& 31) = 2 then (bnd (f_X11_fault C) fun q33 =>
      bnd (f_X12_fault D) fun q35 =>
      if q33 = q35.1 then (f_L_law_L23 g N n (x4 + 6) C q35.2)
        else (some (.inl (0, C, q35.2))))
      else if ((mm_sX g (x4).toNatClampNeg) &&& 31) = 3 then (if inb (x4 + 1) (mm_sL g) = true then (if inb (x4 + 2) (mm_sL g) = true then (bnd (f_L_right N (mm_sX g ((x4 + 1)).toNatClampNeg) (mm_sX g ((x4 + 2)).toNatClampNeg) C D) fun q41 =>
      if inb (x4 + 1) (mm_sL g) = true then (if inb (x4 + 2) (mm_sL g) = true then (bnd (f_X12_right N (mm_sX g ((x4 + 1)).toNatClampNeg) (mm_sX g ((x4 + 2)).toNatClampNeg) q41.2.2) fun q45 =>
      bnd (f_X12_thrown q45.2) fun q47 =>
      if q47 = q41.1 then (if q41.1 = 0 then (if inb 0 1 = true then (if (lg_cmp (gB q45.2 146 (Int32.toNatClampNeg 0)) (Int32.toInt64 q45.1)) = 0 then (f_L_law_L23 g N n (x4 + 6) q41.2.1 q45.2)
            else (some (.inl (0, q41.2.1, q45.2)))) else none)
          else (f_L_law_L23 g N n (x4 + 6) q41.2.1 q45.2))
        else (some (.inl (0, q41.2.1, q45.2)))) else none) else none) else none) else none)
      else if ((mm_sX g (x4).toNatClampNeg) &&& 31) = 4 then (if inb (x4 + 1) (mm_sL g) = true then (bnd (f_L_days (mm_sX g ((x4 + 1)).toNatClampNeg) C D) fun q55 =>
      if inb (x4 + 1) (mm_sL g) = true then (bnd (f_X12_days (mm_sX g ((x4 + 1)).toNatClampNeg) q55.2.2) fun q58 =>
      bnd (f_X12_thrown q58.2) fun q60 =>
      if q60 = q55.1 then (if q55.1 = 0 then (if inb 0 1 = true then (if (lg_cmp (gB q58.2 146 (Int32.toNatClampNeg 0)) (Int32.toInt64 q58.1)) = 0 then (f_L_law_L23 g N n (x4 + 6) q55.2.1 q58.2)
            else (some (.inl (0, q55.2.1, q58.2)))) else none)
          else (f_L_law_L23 g N n (x4 + 6) q55.2.1 q58.2))
        else (some (.inl (0, q55.2.1, q58.2)))) else none) else none)
      else if ((mm_sX g (x4).toNatClampNeg) &&& 31) = 5 then (if inb (x4 + 1) (mm_sL g) = true then (if inb (x4 + 2) (mm_sL g) = true then (bnd (f_L_about N (mm_sX g ((x4 + 1)).toNatClampNeg) (mm_sX g ((x4 + 2)).toNatClampNeg) C D) fun q69 =>
      if inb (x4 + 1) (mm_sL g) = true then (if inb (x4 + 2) (mm_sL g) = true then (bnd (f_X12_about N (mm_sX g ((x4 + 1)).toNatClampNeg) (mm_sX g ((x4 + 2)).toNatClampNeg) q69.2.2) fun q73 =>
      bnd (f_X12_thrown q73.2) fun q75 =>
      if q75 = q69.1 then (if q69.1 = 0 then (if inb 0 1 = true then (if (lg_cmp (gB q73.2 146 (Int32.toNatClampNeg 0)) (Int32.toInt64 q73.1)) = 0 then (f_L_law_L23 g N n (x4 + 6) q69.2.1 q73.2)
            else (some (.inl (0, q69.2.1, q73.2)))) else none)
          else (f_L_law_L23 g N n (x4 + 6) q69.2.1 q73.2))
        else (some (.inl (0, q69.2.1, q73.2)))) else none) else none) else none) else none)
      else if ((mm_sX g (x4).toNatClampNeg) &&& 31) = 6 then (if inb (x4 + 1) (mm_sL g) = true then (if inb (x4 + 2) (mm_sL g) = true then (bnd (f_X11_cited N (mm_sX g ((x4 + 1)).toNatClampNeg) (mm_sX g ((x4 + 2)).toNatClampNeg) C) fun q84 =>
      if inb (x4 + 1) (mm_sL g) = true then (if inb (x4 + 2) (mm_sL g) = true then (bnd (f_X12_cited N (mm_sX g ((x4 + 1)).toNatClampNeg) (mm_sX g ((x4 + 2)).toNatClampNeg) D) fun q88 =>
      if q84 = q88.1 then (f_L_law_L23 g N n (x4 + 6) C q88.2)
        else (some (.inl (0, C, q88.2)))) else none) else none) else none) else none)
      else if ((mm_sX g (x4).toNatClampNeg) &&& 31) = 7 then (if inb (x4 + 1) (mm_sL g) = true then (if inb (x4 + 2) (mm_sL g) = true then (bnd (f_L_fact (mm_sX g ((x4 + 1)).toNatClampNeg) (mm_sX g ((x4 + 2)).toNatClampNeg) C D) fun q94 =>
      if inb (x4 + 1) (mm_sL g) = true then (if inb (x4 + 2) (mm_sL g) = true then (bnd (f_X12_fact (mm_sX g ((x4 + 1)).toNatClampNeg) (mm_sX g ((x4 + 2)).toNatClampNeg) q94.2.2) fun q98 =>
      bnd (f_X12_thrown q98.2) fun q100 =>
      if q100 = q94.1 then (if q94.1 = 0 then (if inb 0 1 = true then (if (lg_cmp (gB q98.2 146 (Int32.toNatClampNeg 0)) (Int32.toInt64 q98.1)) = 0 then (f_L_law_L23 g N n (x4 + 6) q94.2.1 q98.2)
            else (some (.inl (0, q94.2.1, q98.2)))) else none)
          else (f_L_law_L23 g N n (x4 + 6) q94.2.1 q98.2))
        else (some (.inl (0, q94.2.1, q98.2)))) else none) else none) else none) else none)
      else if ((mm_sX g (x4).toNatClampNeg) &&& 31) = 8 then (if inb (x4 + 1) (mm_sL g) = true then (if inb (x4 + 2) (mm_sL g) = true then (bnd (f_L_stands N (mm_sX g ((x4 + 1)).toNatClampNeg) (mm_sX g ((x4 + 2)).toNatClampNeg) C D) fun q109 =>
      if inb (x4 + 1) (mm_sL g) = true then (if inb (x4 + 2) (mm_sL g) = true then (bnd (f_X12_stands N (mm_sX g ((x4 + 1)).toNatClampNeg) (mm_sX g ((x4 + 2)).toNatClampNeg) q109.2.2) fun q113 =>
      bnd (f_X12_thrown q113.2) fun q115 =>
      if q115 = q109.1 then (if q109.1 = 0 then (if inb 0 1 = true then (if (lg_cmp (gB q113.2 146 (Int32.toNatClampNeg 0)) (Int32.toInt64 q113.1)) = 0 then (f_L_law_L23 g N n (x4 + 6) q109.2.1 q113.2)
            else (some (.inl (0, q109.2.1, q113.2)))) else none)
          else (f_L_law_L23 g N n (x4 + 6) q109.2.1 q113.2))
        else (some (.inl (0, q109.2.1, q113.2)))) else none) else none) else none) else none)
      else if ((mm_sX g (x4).toNatClampNeg) &&& 31) = 9 then (if inb (x4 + 1) (mm_sL g) = true then (bnd (f_X11_quarrels N (mm_sX g ((x4 + 1)).toNatClampNeg) C) fun q123 =>
      if inb (x4 + 1) (mm_sL g) = true then (bnd (f_X12_quarrels N (mm_sX g ((x4 + 1)).toNatClampNeg) D) fun q126 =>
      if q123.1 = q126.1 then (f_L_law_L23 g N n (x4 + 6) q123.2 q126.2)
        else (some (.inl (0, q123.2, q126.2)))) else none) else none)
      else if ((mm_sX g (x4).toNatClampNeg) &&& 31) = 10 then (if inb (x4 + 1) (mm_sL g) = true then (if inb (x4 + 2) (mm_sL g) = true then (if inb (x4 + 3) (mm_sL g) = true then (bnd (f_L_quarrel N (mm_sX g ((x4 + 1)).toNatClampNeg) (mm_sX g ((x4 + 2)).toNatClampNeg) (mm_sX g ((x4 + 3)).toNatClampNeg) C D) fun q133 =>
      if inb (x4 + 1) (mm_sL g) = true then (if inb (x4 + 2) (mm_sL g) = true then (if inb (x4 + 3) (mm_sL g) = true then (bnd (f_X12_quarrel N (mm_sX g ((x4 + 1)).toNatClampNeg) (mm_sX g ((x4 + 2)).toNatClampNeg) (mm_sX g ((x4 + 3)).toNatClampNeg) q133.2.2) fun q138 =>
      bnd (f_X12_thrown q138.2) fun q140 =>
      if q140 = q133.1 then (if q133.1 = 0 then (if inb 0 1 = true then (if (lg_cmp (gB q138.2 146 (Int32.toNatClampNeg 0)) (Int32.toInt64 q138.1)) = 0 then (f_L_law_L23 g N n (x4 + 6) q133.2.1 q138.2)
            else (some (.inl (0, q133.2.1, q138.2)))) else none)
          else (f_L_law_L23 g N n (x4 + 6) q133.2.1 q138.2))
        else (some (.inl (0, q133.2.1, q138.2)))) else none) else none) else none) else none) else none) else none)
      else if ((mm_sX g (x4).toNatClampNeg) &&& 31) = 11 then (if inb (x4 + 1) (mm_sL g) = true then (if inb (x4 + 2) (mm_sL g) = true then (bnd (f_L_mention (mm_sX g ((x4 + 1)).toNatClampNeg) (mm_sX g ((x4 + 2)).toNatClampNeg) C D) fun q149 =>
      if inb (x4 + 1) (mm_sL g) = true then (if inb (x4 + 2) (mm_sL g) = true then (bnd (f_X12_mention (mm_sX g ((x4 + 1)).toNatClampNeg) (mm_sX g ((x4 + 2)).toNatClampNeg) q149.2.2) fun q153 =>
      bnd (f_X12_thrown q153.2) fun q155 =>
      if q155 = q149.1 then (if q149.1 = 0 then (if inb 0 1 = true then (if (lg_cmp (gB q153.2 146 (Int32.toNatClampNeg 0)) (Int32.toInt64 q153.1)) = 0 then (f_L_law_L23 g N n (x4 + 6) q149.2.1 q153.2)
            else (some (.inl (0, q149.2.1, q153.2)))) else none)
          else (f_L_law_L23 g N n (x4 + 6) q149.2.1 q153.2))
        else (some (.inl (0, q149.2.1, q153.2)))) else none) else none) else none) else none)
      else if ((mm_sX g (x4).toNatClampNeg) &&& 31) = 12 then (if inb (x4 + 1) (mm_sL g) = true then (if inb (x4 + 2) (mm_sL g) = true then (bnd (f_L_name N (mm_sX g ((x4 + 1)).toNatClampNeg) (mm_sX g ((x4 + 2)).toNatClampNeg) C D) fun q164 =>
      if inb (x4 + 1) (mm_sL g) = true then (if inb (x4 + 2) (mm_sL g) = true then (bnd (f_X12_name_ N (mm_sX g ((x4 + 1)).toNatClampNeg) (mm_sX g ((x4 + 2)).toNatClampNeg) q164.2.2) fun q168 =>
      bnd (f_X12_thrown q168.2) fun q170 =>
      if q170 = q164.1 then (if q164.1 = 0 then (if inb 0 1 = true then (if (lg_cmp (gB q168.2 146 (Int32.toNatClampNeg 0)) (Int32.toInt64 q168.1)) = 0 then (f_L_law_L23 g N n (x4 + 6) q164.2.1 q168.2)
            else (some (.inl (0, q164.2.1, q168.2)))) else none)
          else (f_L_law_L23 g N n (x4 + 6) q164.2.1 q168.2))
        else (some (.inl (0, q164.2.1, q168.2)))) else none) else none) else none) else none)
      else if ((mm_sX g (x4).toNatClampNeg) &&& 31) = 13 then (if inb (x4 + 1) (mm_sL g) = true then (if inb (x4 + 2) (mm_sL g) = true then (if inb (x4 + 3) (mm_sL g) = true then (bnd (f_L_order (mm_sX g ((x4 + 1)).toNatClampNeg) (mm_sX g ((x4 + 2)).toNatClampNeg) (mm_sX g ((x4 + 3)).toNatClampNeg) C D) fun q180 =>
      if inb (x4 + 1) (mm_sL g) = true then (if inb (x4 + 2) (mm_sL g) = true then (if inb (x4 + 3) (mm_sL g) = true then (bnd (f_X12_order (mm_sX g ((x4 + 1)).toNatClampNeg) (mm_sX g ((x4 + 2)).toNatClampNeg) (mm_sX g ((x4 + 3)).toNatClampNeg) q180.2.2) fun q185 =>
      bnd (f_X12_thrown q185.2) fun q187 =>
      if q187 = q180.1 then (if q180.1 = 0 then (if inb 0 1 = true then (if (lg_cmp (gB q185.2 146 (Int32.toNatClampNeg 0)) (Int32.toInt64 q185.1)) = 0 then (f_L_law_L23 g N n (x4 + 6) q180.2.1 q185.2)
            else (some (.inl (0, q180.2.1, q185.2)))) else none)
          else (f_L_law_L23 g N n (x4 + 6) q180.2.1 q185.2))
        else (some (.inl (0, q180.2.1, q185.2)))) else none) else none) else none) else none) else none) else none)
      else if ((mm_sX g (x4).toNatClampNeg) &&& 31) = 14 then (if inb (x4 + 1) (mm_sL g) = true then (bnd (f_L_lift (mm_sX g ((x4 + 1)).toNatClampNeg) C D) fun q195 =>
      if inb (x4 + 1) (mm_sL g) = true then (bnd (f_X12_lift (mm_sX g ((x4 + 1)).toNatClampNeg) q195.2.2) fun q198 =>
      bnd (f_X12_thrown q198.2) fun q200 =>
      if q200 = q195.1 then (if q195.1 = 0 then (if inb 0 1 = true then (if q198.1 = 0 then (if (lg_cmp (gB q198.2 146 (Int32.toNatClampNeg 0)) 0) = 0 then (f_L_law_L23 g N n (x4 + 6) q195.2.1 q198.2)
              else (some (.inl (0, q195.2.1, q198.2))))
            else (if (lg_cmp (gB q198.2 146 (Int32.toNatClampNeg 0)) 1) = 0 then (f_L_law_L23 g N n (x4 + 6) q195.2.1 q198.2)
              else (some (.inl (0, q195.2.1, q198.2))))) else none)
          else (f_L_law_L23 g N n (x4 + 6) q195.2.1 q198.2))
        else (some (.inl (0, q195.2.1, q198.2)))) else none) else none)
      else if ((mm_sX g (x4).toNatClampNeg) &&& 31) = 15 then (if inb (x4 + 1) (mm_sL g) = true then (if inb (x4 + 2) (mm_sL g) = true then (if inb (x4 + 3) (mm_sL g) = true then (bnd (f_L_status N (mm_sX g ((x4 + 1)).toNatClampNeg) (mm_sX g ((x4 + 2)).toNatClampNeg) (mm_sX g ((x4 + 3)).toNatClampNeg) C D) fun q212 =>
      if inb (x4 + 1) (mm_sL g) = true then (if inb (x4 + 2) (mm_sL g) = true then (if inb (x4 + 3) (mm_sL g) = true then (bnd (f_X12_status N (mm_sX g ((x4 + 1)).toNatClampNeg) (mm_sX g ((x4 + 2)).toNatClampNeg) (mm_sX g ((x4 + 3)).toNatClampNeg) q212.2.2) fun q217 =>
      bnd (f_X12_thrown q217.2) fun q219 =>
      if q219 = q212.1 then (if q212.1 = 0 then (if inb 0 1 = true then (if (lg_cmp (gB q217.2 146 (Int32.toNatClampNeg 0)) (Int32.toInt64 q217.1)) = 0 then (f_L_law_L23 g N n (x4 + 6) q212.2.1 q217.2)
            else (some (.inl (0, q212.2.1, q217.2)))) else none)
          else (f_L_law_L23 g N n (x4 + 6) q212.2.1 q217.2))
        else (some (.inl (0, q212.2.1, q217.2)))) else none) else none) else none) else none) else none) else none)
      else if ((mm_sX g (x4).toNatClampNeg) &&& 31) = 16 then (if inb (x4 + 1) (mm_sL g) = true then (if inb (x4 + 2) (mm_sL g) = true then (if inb (x4 + 3) (mm_sL g) = true then (if inb (x4 + 4) (mm_sL g) = true then (bnd (f_L_read N (mm_sX g ((x4 + 1)).toNatClampNeg) (mm_sX g ((x4 + 2)).toNatClampNeg) (mm_sX g ((x4 + 3)).toNatClampNeg) (mm_sX g ((x4 + 4)).toNatClampNeg) C D) fun q230 =>
      if inb (x4 + 1) (mm_sL g) = true then (if inb (x4 + 2) (mm_sL g) = true then (if inb (x4 + 3) (mm_sL g) = true then (if inb (x4 + 4) (mm_sL g) = true then (bnd (f_X12_read N (mm_sX g ((x4 + 1)).toNatClampNeg) (mm_sX g ((x4 + 2)).toNatClampNeg) (mm_sX g ((x4 + 3)).toNatClampNeg) (mm_sX g ((x4 + 4)).toNatClampNeg) q230.2.2) fun q236 =>
      bnd (f_X12_thrown q236.2) fun q238 =>
      if q238 = q230.1 then (if q230.1 = 0 then (if inb 0 1 = true then (if (lg_cmp (gB q236.2 146 (Int32.toNatClampNeg 0)) (Int32.toInt64 q236.1)) = 0 then (f_L_law_L23 g N n (x4 + 6) q230.2.1 q236.2)
            else (some (.inl (0, q230.2.1, q236.2)))) else none)
          else (f_L_law_L23 g N n (x4 + 6) q230.2.1 q236.2))
        else (some (.inl (0, q230.2.1, q236.2)))) else none) else none) else none) else none) else none) else none) else none) else none)
      else if ((mm_sX g (x4).toNatClampNeg) &&& 31) = 17 then (if inb (x4 + 1) (mm_sL g) = true then (bnd (f_L_told (mm_sX g ((x4 + 1)).toNatClampNeg) C D) fun q246 =>
      if inb (x4 + 1) (mm_sL g) = true then (bnd (f_X12_told (mm_sX g ((x4 + 1)).toNatClampNeg) q246.2.2) fun q249 =>
      bnd (f_X12_thrown q249.2) fun q251 =>
      if q251 = q246.1 then (if q246.1 = 0 then (if inb 0 1 = true then (if (lg_cmp (gB q249.2 146 (Int32.toNatClampNeg 0)) (Int32.toInt64 q249.1)) = 0 then (f_L_law_L23 g N n (x4 + 6) q246.2.1 q249.2)
            else (some (.inl (0, q246.2.1, q249.2)))) else none)
          else (f_L_law_L23 g N n (x4 + 6) q246.2.1 q249.2))
        else (some (.inl (0, q246.2.1, q249.2)))) else none) else none)
      else if ((mm_sX g (x4).toNatClampNeg) &&& 31) = 18 then (if inb (x4 + 1) (mm_sL g) = true then (if inb (x4 + 2) (mm_sL g) = true then (if inb (x4 + 3) (mm_sL g) = true then (bnd (f_X11_digest (mm_sX g ((x4 + 1)).toNatClampNeg) (mm_sX g ((x4 + 2)).toNatClampNeg) (mm_sX g ((x4 + 3)).toNatClampNeg) C) fun q261 =>
      if inb (x4 + 1) (mm_sL g) = true then (if inb (x4 + 2) (mm_sL g) = true then (if inb (x4 + 3) (mm_sL g) = true then (bnd (f_X12_digest (mm_sX g ((x4 + 1)).toNatClampNeg) (mm_sX g ((x4 + 2)).toNatClampNeg) (mm_sX g ((x4 + 3)).toNatClampNeg) D) fun q266 =>
      if q261.1 = q266.1 then (f_L_law_L23 g N n (x4 + 6) q261.2 q266.2)
        else (some (.inl (0, q261.2, q266.2)))) else none) else none) else none) else none) else none) else none)
      else if ((mm_sX g (x4).toNatClampNeg) &&& 31) = 19 then (if inb (x4 + 1) (mm_sL g) = true then (if inb (x4 + 2) (mm_sL g) = true then (bnd (f_L_cite N (mm_sX g ((x4 + 1)).toNatClampNeg) (mm_sX g ((x4 + 2)).toNatClampNeg) C D) fun q272 =>
      if inb (x4 + 1) (mm_sL g) = true then (if inb (x4 + 2) (mm_sL g) = true then (bnd (f_X12_cite N (mm_sX g ((x4 + 1)).toNatClampNeg) (mm_sX g ((x4 + 2)).toNatClampNeg) q272.2.2) fun q276 =>
      bnd (f_X12_thrown q276.2) fun q278 =>
      if q278 = q272.1 then (if q272.1 = 0 then (if inb 0 1 = true then (if (lg_cmp (gB q276.2 146 (Int32.toNatClampNeg 0)) (Int32.toInt64 q276.1)) = 0 then (f_L_law_L23 g N n (x4 + 6) q272.2.1 q276.2)
            else (some (.inl (0, q272.2.1, q276.2)))) else none)
          else (f_L_law_L23 g N n (x4 + 6) q272.2.1 q276.2))
        else (some (.inl (0, q272.2.1, q276.2)))) else none) else none) else none) else none)
      else if ((mm_sX g (x4).toNatClampNeg) &&& 31) = 20 then (if inb (x4 + 1) (mm_sL g) = true then (if inb (x4 + 2) (mm_sL g) = true then (bnd (f_L_shown N (mm_sX g ((x4 + 1)).toNatClampNeg) (mm_sX g ((x4 + 2)).toNatClampNeg) C D) fun q287 =>
      if inb (x4 + 1) (mm_sL g) = true then (if inb (x4 + 2) (mm_sL g) = true then (bnd (f_X12_shown N (mm_sX g ((x4 + 1)).toNatClampNeg) (mm_sX g ((x4 + 2)).toNatClampNeg) q287.2.2) fun q291 =>
      bnd (f_X12_thrown q291.2) fun q293 =>
      if q293 = q287.1 then (if q287.1 = 0 then (if inb 0 1 = true then (if (lg_cmp (gB q291.2 146 (Int32.toNatClampNeg 0)) (Int32.toInt64 q291.1)) = 0 then (f_L_law_L23 g N n (x4 + 6) q287.2.1 q291.2)
            else (some (.inl (0, q287.2.1, q291.2)))) else none)
          else (f_L_law_L23 g N n (x4 + 6) q287.2.1 q291.2))
        else (some (.inl (0, q287.2.1, q291.2)))) else none) else none) else none) else none)
      else if ((mm_sX g (x4).toNatClampNeg) &&& 31) = 21 then (if inb (x4 + 1) (mm_sL g) = true then (bnd (f_L_count N (mm_sX g ((x4 + 1)).toNatClampNeg) C D) fun q301 =>
      if inb (x4 + 1) (mm_sL g) = true then (bnd (f_X12_count (mm_sX g ((x4 + 1)).toNatClampNeg) q301.2.2) fun q304 =>
      bnd (f_X12_thrown q304.2) fun q306 =>
      if q306 = q301.1 then (if q301.1 = 0 then (if inb 0 1 = true then (if (lg_cmp (gB q304.2 146 (Int32.toNatClampNeg 0)) (Int32.toInt64 q304.1)) = 0 then (f_L_law_L23 g N n (x4 + 6) q301.2.1 q304.2)
            else (some (.inl (0, q301.2.1, q304.2)))) else none)
          else (f_L_law_L23 g N n (x4 + 6) q301.2.1 q304.2))
        else (some (.inl (0, q301.2.1, q304.2)))) else none) else none)
      else (f_L_law_L23 g N n (x4 + 6) C D)) else none)
theorem t_L_law_L23 {g : mm_G} {d : Nat} {Post : mm_Ou → mm_Hp → Prop} {N : Nat} {res : ((Int32 × CS × CS) ⊕ (CS × CS))} (hd : 10 ≤ d) (KR : ∀ (q : (Int32 × CS × CS)) (h1 : mm_Hp), res = .inl q → Rep h1 q.2.1 q.2.2 → Post (.inl (some (.int q.1))) h1) (KE : ∀ (q : CS × CS) (h1 : mm_Hp), res = .inr q → Rep h1 q.1 q.2 → mm_P g d ML_law 1510 [none, none, none, none, none, none, none] [] h1 Post) : ∀ (n : Nat) (x4 : Int32) (C D : CS) (h : mm_Hp) , Rep h C D → f_L_law_L23 g N n x4 C D = some res → mm_P g d ML_law 23 [some (.ref 0), some (.ref 64), some (.ref 113), some (.ref 146), some (.int x4), none, none] [] h Post := by
  intro n
  induction n with
  | zero =>
    intro x4 C D h R H
    exact hN H
  | succ n ih =>
    intro x4 C D h R H
    unfold f_L_law_L23 at H
    refine mm_iload dL_law_23 rfl ?_
    refine mm_aload_n dL_law_25 rfl ?_
    refine mm_slen dL_law_26 ?_
    refine mm_bipush (v := 6) dL_law_27 (by decide +kernel) ?_
    refine mm_isub dL_law_29 ?_
    refine mm_icmp_gt 1510 dL_law_30 (by decide) (fun c1 => ?_) (fun c1 => ?_)
    · replace H := hT c1 H
      refine mm_fgt (ls' := [none, none, none, none, none, none, none]) trivial ?_
      exact KE _ _ (Option.some.inj H).symm R
    · replace H := hF c1 H
      refine mm_aload_n dL_law_33 rfl ?_
      refine mm_iload dL_law_34 rfl ?_
      obtain ⟨b2, H⟩ := hB H
      refine mm_sld dL_law_36 (inb_vp b2) ?_
      refine mm_bipush (v := 31) dL_law_37 (by decide +kernel) ?_
      refine mm_iand dL_law_39 ?_
      by_cases c3 : ((mm_sX g (x4).toNatClampNeg) &&& 31) = 0
      · replace H := hT c3 H
        refine mm_tabIn 144 dL_law_40 (by rw [c3]; decide) (by rw [c3]; decide) (by rw [c3]; rfl) (by decide) ?_
        refine mm_aload_n dL_law_144 rfl ?_
        refine mm_aload_n dL_law_145 rfl ?_
        refine mm_iload dL_law_146 rfl ?_
        refine mm_iconst (v := 1) dL_law_148 (by decide +kernel) ?_
        refine mm_iadd dL_law_149 ?_
        obtain ⟨b4, H⟩ := hB H
        refine mm_sld dL_law_150 (inb_vp b4) ?_
        refine mm_aload_n dL_law_151 rfl ?_
        refine mm_iload dL_law_152 rfl ?_
        refine mm_iconst (v := 2) dL_law_154 (by decide +kernel) ?_
        refine mm_iadd dL_law_155 ?_
        obtain ⟨b5, H⟩ := hB H
        refine mm_sld dL_law_156 (inb_vp b5) ?_
        refine mm_aload_n dL_law_157 rfl ?_
        refine mm_iload dL_law_158 rfl ?_
        refine mm_iconst (v := 3) dL_law_160 (by decide +kernel) ?_
        refine mm_iadd dL_law_161 ?_
        obtain ⟨b6, H⟩ := hB H
        refine mm_sld dL_law_162 (inb_vp b6) ?_
        refine mm_aload_n dL_law_163 rfl ?_
        refine mm_iload dL_law_164 rfl ?_
        refine mm_iconst (v := 4) dL_law_166 (by decide +kernel) ?_
        refine mm_iadd dL_law_167 ?_
        obtain ⟨b7, H⟩ := hB H
        refine mm_sld dL_law_168 (inb_vp b7) ?_
        refine mm_aload_n dL_law_169 rfl ?_
        refine mm_iload dL_law_170 rfl ?_
        refine mm_iconst (v := 5) dL_law_172 (by decide +kernel) ?_
        refine mm_iadd dL_law_173 ?_
        obtain ⟨b8, H⟩ := hB H
        refine mm_sld dL_law_174 (inb_vp b8) ?_
        obtain ⟨q9, H10, H⟩ := hC H
        refine mm_callV (d' := d - 1) (as := [.int (mm_sX g ((x4 + 1)).toNatClampNeg), .int (mm_sX g ((x4 + 2)).toNatClampNeg), .int (mm_sX g ((x4 + 3)).toNatClampNeg), .int (mm_sX g ((x4 + 4)).toNatClampNeg), .int (mm_sX g ((x4 + 5)).toNatClampNeg)]) (st := []) (dS hd) cm_X11_feed (mm_t2 181 rfl rfl) (mm_t2 182 rfl rfl) (mm_t2 183 rfl rfl) (T := TX11) (N := 14) rfl dL_law_175 (R.oC (r := 64) rfl lay_64) rfl (Nat.le_of_ble_eq_true rfl) (Nat.le_of_ble_eq_true rfl) rfl rfl (t_X11_feed (dL hd (by decide)) R H10) (fun o h q => th_cI q (fun R => ?_))
        refine mm_aload_n dL_law_178 rfl ?_
        refine mm_aload_n dL_law_179 rfl ?_
        refine mm_iload dL_law_180 rfl ?_
        refine mm_iconst (v := 1) dL_law_182 (by decide +kernel) ?_
        refine mm_iadd dL_law_183 ?_
        obtain ⟨b11, H⟩ := hB H
        refine mm_sld dL_law_184 (inb_vp b11) ?_
        refine mm_aload_n dL_law_185 rfl ?_
        refine mm_iload dL_law_186 rfl ?_
        refine mm_iconst (v := 2) dL_law_188 (by decide +kernel) ?_
        refine mm_iadd dL_law_189 ?_
        obtain ⟨b12, H⟩ := hB H
        refine mm_sld dL_law_190 (inb_vp b12) ?_
        refine mm_aload_n dL_law_191 rfl ?_
        refine mm_iload dL_law_192 rfl ?_
        refine mm_iconst (v := 3) dL_law_194 (by decide +kernel) ?_
        refine mm_iadd dL_law_195 ?_
        obtain ⟨b13, H⟩ := hB H
        refine mm_sld dL_law_196 (inb_vp b13) ?_
        refine mm_aload_n dL_law_197 rfl ?_
        refine mm_iload dL_law_198 rfl ?_
        refine mm_iconst (v := 4) dL_law_200 (by decide +kernel) ?_
        refine mm_iadd dL_law_201 ?_
        obtain ⟨b14, H⟩ := hB H
        refine mm_sld dL_law_202 (inb_vp b14) ?_
        refine mm_aload_n dL_law_203 rfl ?_
        refine mm_iload dL_law_204 rfl ?_
        refine mm_iconst (v := 5) dL_law_206 (by decide +kernel) ?_
        refine mm_iadd dL_law_207 ?_
        obtain ⟨b15, H⟩ := hB H
        refine mm_sld dL_law_208 (inb_vp b15) ?_
        obtain ⟨q16, H17, H⟩ := hC H
        refine mm_callV (d' := d - 1) (as := [.int (mm_sX g ((x4 + 1)).toNatClampNeg), .int (mm_sX g ((x4 + 2)).toNatClampNeg), .int (mm_sX g ((x4 + 3)).toNatClampNeg), .int (mm_sX g ((x4 + 4)).toNatClampNeg), .int (mm_sX g ((x4 + 5)).toNatClampNeg)]) (st := [.int q9.1]) (dS hd) cm_X12_feed (mm_t6 121 rfl rfl) (mm_t6 122 rfl rfl) (mm_t6 123 rfl rfl) (T := TX12) (N := 54) rfl dL_law_209 (R.oD (r := 113) rfl lay_113) rfl (Nat.le_of_ble_eq_true rfl) (Nat.le_of_ble_eq_true rfl) rfl rfl (t_X12_feed (dL hd (by decide)) R H17) (fun o h q => th_dI q (fun R => ?_))
        refine mm_icmp_eq 1504 dL_law_212 (by decide) (fun c18 => ?_) (fun c18 => ?_)
        · replace H := hT c18 H
          refine mm_iinc (v := (x4 + 6)) (ls' := [some (.ref 0), some (.ref 64), some (.ref 113), some (.ref 146), some (.int (x4 + 6)), none, none]) dL_law_1504 rfl rfl rfl ?_
          refine mm_goto 23 dL_law_1507 (by decide) ?_
          exact ih _ _ _ _ R H
        · replace H := hF c18 H
          refine mm_iconst (v := 0) dL_law_215 (by decide +kernel) ?_
          refine mm_iret rfl rfl dL_law_216 ?_
          exact KR _ _ (Option.some.inj H).symm R
      replace H := hF c3 H
      by_cases c19 : ((mm_sX g (x4).toNatClampNeg) &&& 31) = 1
      · replace H := hT c19 H
        refine mm_tabIn 217 dL_law_40 (by rw [c19]; decide) (by rw [c19]; decide) (by rw [c19]; rfl) (by decide) ?_
        refine mm_aload_n dL_law_217 rfl ?_
        refine mm_aload_n dL_law_218 rfl ?_
        refine mm_iload dL_law_219 rfl ?_
        refine mm_iconst (v := 1) dL_law_221 (by decide +kernel) ?_
        refine mm_iadd dL_law_222 ?_
        obtain ⟨b20, H⟩ := hB H
        refine mm_sld dL_law_223 (inb_vp b20) ?_
        refine mm_aload_n dL_law_224 rfl ?_
        obtain ⟨q21, H22, H⟩ := hC H
        refine mm_callSW (d' := d - 1) (as := [.ref 64, .int (mm_sX g ((x4 + 1)).toNatClampNeg), .ref 146]) (st := []) (dS hd) cm_L_sitting (mm_t3 49 rfl rfl) (mm_t3 50 rfl rfl) dL_law_225 rfl (Nat.le_of_ble_eq_true rfl) (Nat.le_of_ble_eq_true rfl) rfl rfl (t_L_sitting (dL hd (by decide)) R H22) (fun E h1 q => by cases q.1) (fun v h q => th_lI q (fun R => ?_))
        refine mm_istore (ls' := [some (.ref 0), some (.ref 64), some (.ref 113), some (.ref 146), some (.int x4), some (.int q21.1), none]) dL_law_228 (Nat.le_of_ble_eq_true rfl) rfl ?_
        refine mm_aload_n dL_law_230 rfl ?_
        refine mm_aload_n dL_law_231 rfl ?_
        refine mm_iload dL_law_232 rfl ?_
        refine mm_iconst (v := 1) dL_law_234 (by decide +kernel) ?_
        refine mm_iadd dL_law_235 ?_
        obtain ⟨b23, H⟩ := hB H
        refine mm_sld dL_law_236 (inb_vp b23) ?_
        obtain ⟨q24, H25, H⟩ := hC H
        refine mm_callV (d' := d - 1) (as := [.int (mm_sX g ((x4 + 1)).toNatClampNeg)]) (st := []) (dS hd) cm_X12_sitting (mm_t6 125 rfl rfl) (mm_t6 126 rfl rfl) (mm_t6 127 rfl rfl) (T := TX12) (N := 54) rfl dL_law_237 (R.oD (r := 113) rfl lay_113) rfl (Nat.le_of_ble_eq_true rfl) (Nat.le_of_ble_eq_true rfl) rfl rfl (t_X12_sitting (dL hd (by decide)) R H25) (fun o h q => th_dI q (fun R => ?_))
        refine mm_istore (ls' := [some (.ref 0), some (.ref 64), some (.ref 113), some (.ref 146), some (.int x4), some (.int q21.1), some (.int q24.1)]) dL_law_240 (Nat.le_of_ble_eq_true rfl) rfl ?_
        refine mm_aload_n dL_law_242 rfl ?_
        obtain ⟨q26, H27, H⟩ := hC H
        refine mm_callV (d' := d - 1) (as := []) (st := []) (dS hd) cm_X12_thrown (mm_t6 117 rfl rfl) (mm_t6 118 rfl rfl) (mm_t6 119 rfl rfl) (T := TX12) (N := 54) rfl dL_law_243 (R.oD (r := 113) rfl lay_113) rfl (Nat.le_of_ble_eq_true rfl) (Nat.le_of_ble_eq_true rfl) rfl rfl (t_X12_thrown (dL hd (by decide)) R H27) (fun o u q => mm_thenI q ?_)
        refine mm_iload dL_law_246 rfl ?_
        refine mm_icmp_eq 253 dL_law_248 (by decide) (fun c28 => ?_) (fun c28 => ?_)
        · replace H := hT c28 H
          refine mm_iload dL_law_253 rfl ?_
          refine mm_if_ne 270 dL_law_255 (by decide) (fun c29 => ?_) (fun c29 => ?_)
          · replace H := hF c29 H
            refine mm_goto 1504 dL_law_270 (by decide) ?_
            refine mm_iinc (v := (x4 + 6)) (ls' := [some (.ref 0), some (.ref 64), some (.ref 113), some (.ref 146), some (.int (x4 + 6)), some (.int q21.1), some (.int q24.1)]) dL_law_1504 rfl rfl rfl ?_
            refine mm_goto 23 dL_law_1507 (by decide) ?_
            refine mm_fgt (ls' := [some (.ref 0), some (.ref 64), some (.ref 113), some (.ref 146), some (.int (x4 + 6)), none, none]) ⟨rfl, rfl, rfl, rfl, rfl, trivial⟩ ?_
            exact ih _ _ _ _ R H
          · replace H := hT c29 H
            refine mm_aload_n dL_law_258 rfl ?_
            refine mm_iconst (v := 0) dL_law_259 (by decide +kernel) ?_
            obtain ⟨b30, H⟩ := hB H
            refine rD_lald lay_146 rfl dL_law_260 R b30 ?_
            refine mm_iload dL_law_261 rfl ?_
            refine mm_i2l dL_law_263 ?_
            refine mm_lcmp dL_law_264 ?_
            refine mm_if_eq 270 dL_law_265 (by decide) (fun c31 => ?_) (fun c31 => ?_)
            · replace H := hT c31 H
              refine mm_goto 1504 dL_law_270 (by decide) ?_
              refine mm_iinc (v := (x4 + 6)) (ls' := [some (.ref 0), some (.ref 64), some (.ref 113), some (.ref 146), some (.int (x4 + 6)), some (.int q21.1), some (.int q24.1)]) dL_law_1504 rfl rfl rfl ?_
              refine mm_goto 23 dL_law_1507 (by decide) ?_
              refine mm_fgt (ls' := [some (.ref 0), some (.ref 64), some (.ref 113), some (.ref 146), some (.int (x4 + 6)), none, none]) ⟨rfl, rfl, rfl, rfl, rfl, trivial⟩ ?_
              exact ih _ _ _ _ R H
            · replace H := hF c31 H
              refine mm_iconst (v := 0) dL_law_268 (by decide +kernel) ?_
              refine mm_iret rfl rfl dL_law_269 ?_
              exact KR _ _ (Option.some.inj H).symm R
        · replace H := hF c28 H
          refine mm_iconst (v := 0) dL_law_251 (by decide +kernel) ?_
          refine mm_iret rfl rfl dL_law_252 ?_
          exact KR _ _ (Option.some.inj H).symm R
      replace H := hF c19 H
      by_cases c32 : ((mm_sX g (x4).toNatClampNeg) &&& 31) = 2
      · replace H := hT c32 H
        refine mm_tabIn 273 dL_law_40 (by rw [c32]; decide) (by rw [c32]; decide) (by rw [c32]; rfl) (by decide) ?_
        refine mm_aload_n dL_law_273 rfl ?_
        obtain ⟨q33, H34, H⟩ := hC H
        refine mm_callV (d' := d - 1) (as := []) (st := []) (dS hd) cm_X11_fault (mm_t2 209 rfl rfl) (mm_t2 210 rfl rfl) (mm_t2 211 rfl rfl) (T := TX11) (N := 14) rfl dL_law_274 (R.oC (r := 64) rfl lay_64) rfl (Nat.le_of_ble_eq_true rfl) (Nat.le_of_ble_eq_true rfl) rfl rfl (t_X11_fault (dL hd (by decide)) R H34) (fun o u q => mm_thenI q ?_)
        refine mm_aload_n dL_law_277 rfl ?_
        obtain ⟨q35, H36, H⟩ := hC H
        refine mm_callV (d' := d - 1) (as := []) (st := [.int q33]) (dS hd) cm_X12_fault (mm_t6 200 rfl rfl) (mm_t6 201 rfl rfl) (mm_t6 202 rfl rfl) (T := TX12) (N := 54) rfl dL_law_278 (R.oD (r := 113) rfl lay_113) rfl (Nat.le_of_ble_eq_true rfl) (Nat.le_of_ble_eq_true rfl) rfl rfl (t_X12_fault (dL hd (by decide)) R H36) (fun o h q => th_dI q (fun R => ?_))
        refine mm_icmp_eq 1504 dL_law_281 (by decide) (fun c37 => ?_) (fun c37 => ?_)
        · replace H := hT c37 H
          refine mm_iinc (v := (x4 + 6)) (ls' := [some (.ref 0), some (.ref 64), some (.ref 113), some (.ref 146), some (.int (x4 + 6)), none, none]) dL_law_1504 rfl rfl rfl ?_
          refine mm_goto 23 dL_law_1507 (by decide) ?_
          exact ih _ _ _ _ R H
        · replace H := hF c37 H
          refine mm_iconst (v := 0) dL_law_284 (by decide +kernel) ?_
          refine mm_iret rfl rfl dL_law_285 ?_
          exact KR _ _ (Option.some.inj H).symm R
      replace H := hF c32 H
      by_cases c38 : ((mm_sX g (x4).toNatClampNeg) &&& 31) = 3
      · replace H := hT c38 H
        refine mm_tabIn 286 dL_law_40 (by rw [c38]; decide) (by rw [c38]; decide) (by rw [c38]; rfl) (by decide) ?_
        refine mm_aload_n dL_law_286 rfl ?_
        refine mm_aload_n dL_law_287 rfl ?_
        refine mm_iload dL_law_288 rfl ?_
        refine mm_iconst (v := 1) dL_law_290 (by decide +kernel) ?_
        refine mm_iadd dL_law_291 ?_
        obtain ⟨b39, H⟩ := hB H
        refine mm_sld dL_law_292 (inb_vp b39) ?_
        refine mm_aload_n dL_law_293 rfl ?_
        refine mm_iload dL_law_294 rfl ?_
        refine mm_iconst (v := 2) dL_law_296 (by decide +kernel) ?_
        refine mm_iadd dL_law_297 ?_
        obtain ⟨b40, H⟩ := hB H
        refine mm_sld dL_law_298 (inb_vp b40) ?_
        refine mm_aload_n dL_law_299 rfl ?_
        obtain ⟨q41, H42, H⟩ := hC H
        refine mm_callSW (d' := d - 1) (as := [.ref 64, .int (mm_sX g ((x4 + 1)).toNatClampNeg), .int (mm_sX g ((x4 + 2)).toNatClampNeg), .ref 146]) (st := []) (dS hd) cm_L_right (mm_t4 166 rfl rfl) (mm_t4 167 rfl rfl) dL_law_300 rfl (Nat.le_of_ble_eq_true rfl) (Nat.le_of_ble_eq_true rfl) rfl rfl (t_L_right (dL hd (by decide)) R H42) (fun E h1 q => by cases q.1) (fun v h q => th_lI q (fun R => ?_))
        refine mm_istore (ls' := [some (.ref 0), some (.ref 64), some (.ref 113), some (.ref 146), some (.int x4), some (.int q41.1), none]) dL_law_303 (Nat.le_of_ble_eq_true rfl) rfl ?_
        refine mm_aload_n dL_law_305 rfl ?_
        refine mm_aload_n dL_law_306 rfl ?_
        refine mm_iload dL_law_307 rfl ?_
        refine mm_iconst (v := 1) dL_law_309 (by decide +kernel) ?_
        refine mm_iadd dL_law_310 ?_
        obtain ⟨b43, H⟩ := hB H
        refine mm_sld dL_law_311 (inb_vp b43) ?_
        refine mm_aload_n dL_law_312 rfl ?_
        refine mm_iload dL_law_313 rfl ?_
        refine mm_iconst (v := 2) dL_law_315 (by decide +kernel) ?_
        refine mm_iadd dL_law_316 ?_
        obtain ⟨b44, H⟩ := hB H
        refine mm_sld dL_law_317 (inb_vp b44) ?_
        obtain ⟨q45, H46, H⟩ := hC H
        refine mm_callV (d' := d - 1) (as := [.int (mm_sX g ((x4 + 1)).toNatClampNeg), .int (mm_sX g ((x4 + 2)).toNatClampNeg)]) (st := []) (dS hd) cm_X12_right (mm_t6 204 rfl rfl) (mm_t6 205 rfl rfl) (mm_t6 206 rfl rfl) (T := TX12) (N := 54) rfl dL_law_318 (R.oD (r := 113) rfl lay_113) rfl (Nat.le_of_ble_eq_true rfl) (Nat.le_of_ble_eq_true rfl) rfl rfl (t_X12_right (dL hd (by decide)) R H46) (fun o h q => th_dI q (fun R => ?_))
        refine mm_istore (ls' := [some (.ref 0), some (.ref 64), some (.ref 113), some (.ref 146), some (.int x4), some (.int q41.1), some (.int q45.1)]) dL_law_321 (Nat.le_of_ble_eq_true rfl) rfl ?_
        refine mm_aload_n dL_law_323 rfl ?_
        obtain ⟨q47, H48, H⟩ := hC H
        refine mm_callV (d' := d - 1) (as := []) (st := []) (dS hd) cm_X12_thrown (mm_t6 117 rfl rfl) (mm_t6 118 rfl rfl) (mm_t6 119 rfl rfl) (T := TX12) (N := 54) rfl dL_law_324 (R.oD (r := 113) rfl lay_113) rfl (Nat.le_of_ble_eq_true rfl) (Nat.le_of_ble_eq_true rfl) rfl rfl (t_X12_thrown (dL hd (by decide)) R H48) (fun o u q => mm_thenI q ?_)
        refine mm_iload dL_law_327 rfl ?_
        refine mm_icmp_eq 334 dL_law_329 (by decide) (fun c49 => ?_) (fun c49 => ?_)
        · replace H := hT c49 H
          refine mm_iload dL_law_334 rfl ?_
          refine mm_if_ne 351 dL_law_336 (by decide) (fun c50 => ?_) (fun c50 => ?_)
          · replace H := hF c50 H
            refine mm_goto 1504 dL_law_351 (by decide) ?_
            refine mm_iinc (v := (x4 + 6)) (ls' := [some (.ref 0), some (.ref 64), some (.ref 113), some (.ref 146), some (.int (x4 + 6)), some (.int q41.1), some (.int q45.1)]) dL_law_1504 rfl rfl rfl ?_
            refine mm_goto 23 dL_law_1507 (by decide) ?_
            refine mm_fgt (ls' := [some (.ref 0), some (.ref 64), some (.ref 113), some (.ref 146), some (.int (x4 + 6)), none, none]) ⟨rfl, rfl, rfl, rfl, rfl, trivial⟩ ?_
            exact ih _ _ _ _ R H
          · replace H := hT c50 H
            refine mm_aload_n dL_law_339 rfl ?_
            refine mm_iconst (v := 0) dL_law_340 (by decide +kernel) ?_
            obtain ⟨b51, H⟩ := hB H
            refine rD_lald lay_146 rfl dL_law_341 R b51 ?_
            refine mm_iload dL_law_342 rfl ?_
            refine mm_i2l dL_law_344 ?_
            refine mm_lcmp dL_law_345 ?_
            refine mm_if_eq 351 dL_law_346 (by decide) (fun c52 => ?_) (fun c52 => ?_)
            · replace H := hT c52 H
              refine mm_goto 1504 dL_law_351 (by decide) ?_
              refine mm_iinc (v := (x4 + 6)) (ls' := [some (.ref 0), some (.ref 64), some (.ref 113), some (.ref 146), some (.int (x4 + 6)), some (.int q41.1), some (.int q45.1)]) dL_law_1504 rfl rfl rfl ?_
              refine mm_goto 23 dL_law_1507 (by decide) ?_
              refine mm_fgt (ls' := [some (.ref 0), some (.ref 64), some (.ref 113), some (.ref 146), some (.int (x4 + 6)), none, none]) ⟨rfl, rfl, rfl, rfl, rfl, trivial⟩ ?_
              exact ih _ _ _ _ R H
            · replace H := hF c52 H
              refine mm_iconst (v := 0) dL_law_349 (by decide +kernel) ?_
              refine mm_iret rfl rfl dL_law_350 ?_
              exact KR _ _ (Option.some.inj H).symm R
        · replace H := hF c49 H
          refine mm_iconst (v := 0) dL_law_332 (by decide +kernel) ?_
          refine mm_iret rfl rfl dL_law_333 ?_
          exact KR _ _ (Option.some.inj H).symm R
      replace H := hF c38 H
      by_cases c53 : ((mm_sX g (x4).toNatClampNeg) &&& 31) = 4
      · replace H := hT c53 H
        refine mm_tabIn 354 dL_law_40 (by rw [c53]; decide) (by rw [c53]; decide) (by rw [c53]; rfl) (by decide) ?_
        refine mm_aload_n dL_law_354 rfl ?_
        refine mm_aload_n dL_law_355 rfl ?_
        refine mm_iload dL_law_356 rfl ?_
        refine mm_iconst (v := 1) dL_law_358 (by decide +kernel) ?_
        refine mm_iadd dL_law_359 ?_
        obtain ⟨b54, H⟩ := hB H
        refine mm_sld dL_law_360 (inb_vp b54) ?_
        refine mm_aload_n dL_law_361 rfl ?_
        obtain ⟨q55, H56, H⟩ := hC H
        refine mm_callSW (d' := d - 1) (as := [.ref 64, .int (mm_sX g ((x4 + 1)).toNatClampNeg), .ref 146]) (st := []) (dS hd) cm_L_days (mm_t4 202 rfl rfl) (mm_t4 203 rfl rfl) dL_law_362 rfl (Nat.le_of_ble_eq_true rfl) (Nat.le_of_ble_eq_true rfl) rfl rfl (t_L_days (dL hd (by decide)) R H56) (fun E h1 q => by cases q.1) (fun v h q => th_lI q (fun R => ?_))
        refine mm_istore (ls' := [some (.ref 0), some (.ref 64), some (.ref 113), some (.ref 146), some (.int x4), some (.int q55.1), none]) dL_law_365 (Nat.le_of_ble_eq_true rfl) rfl ?_
        refine mm_aload_n dL_law_367 rfl ?_
        refine mm_aload_n dL_law_368 rfl ?_
        refine mm_iload dL_law_369 rfl ?_
        refine mm_iconst (v := 1) dL_law_371 (by decide +kernel) ?_
        refine mm_iadd dL_law_372 ?_
        obtain ⟨b57, H⟩ := hB H
        refine mm_sld dL_law_373 (inb_vp b57) ?_
        obtain ⟨q58, H59, H⟩ := hC H
        refine mm_callV (d' := d - 1) (as := [.int (mm_sX g ((x4 + 1)).toNatClampNeg)]) (st := []) (dS hd) cm_X12_days (mm_t6 212 rfl rfl) (mm_t6 213 rfl rfl) (mm_t6 214 rfl rfl) (T := TX12) (N := 54) rfl dL_law_374 (R.oD (r := 113) rfl lay_113) rfl (Nat.le_of_ble_eq_true rfl) (Nat.le_of_ble_eq_true rfl) rfl rfl (t_X12_days (dL hd (by decide)) R H59) (fun o h q => th_dI q (fun R => ?_))
        refine mm_istore (ls' := [some (.ref 0), some (.ref 64), some (.ref 113), some (.ref 146), some (.int x4), some (.int q55.1), some (.int q58.1)]) dL_law_377 (Nat.le_of_ble_eq_true rfl) rfl ?_
        refine mm_aload_n dL_law_379 rfl ?_
        obtain ⟨q60, H61, H⟩ := hC H
        refine mm_callV (d' := d - 1) (as := []) (st := []) (dS hd) cm_X12_thrown (mm_t6 117 rfl rfl) (mm_t6 118 rfl rfl) (mm_t6 119 rfl rfl) (T := TX12) (N := 54) rfl dL_law_380 (R.oD (r := 113) rfl lay_113) rfl (Nat.le_of_ble_eq_true rfl) (Nat.le_of_ble_eq_true rfl) rfl rfl (t_X12_thrown (dL hd (by decide)) R H61) (fun o u q => mm_thenI q ?_)
        refine mm_iload dL_law_383 rfl ?_
        refine mm_icmp_eq 390 dL_law_385 (by decide) (fun c62 => ?_) (fun c62 => ?_)
        · replace H := hT c62 H
          refine mm_iload dL_law_390 rfl ?_
          refine mm_if_ne 407 dL_law_392 (by decide) (fun c63 => ?_) (fun c63 => ?_)
          · replace H := hF c63 H
            refine mm_goto 1504 dL_law_407 (by decide) ?_
            refine mm_iinc (v := (x4 + 6)) (ls' := [some (.ref 0), some (.ref 64), some (.ref 113), some (.ref 146), some (.int (x4 + 6)), some (.int q55.1), some (.int q58.1)]) dL_law_1504 rfl rfl rfl ?_
            refine mm_goto 23 dL_law_1507 (by decide) ?_
            refine mm_fgt (ls' := [some (.ref 0), some (.ref 64), some (.ref 113), some (.ref 146), some (.int (x4 + 6)), none, none]) ⟨rfl, rfl, rfl, rfl, rfl, trivial⟩ ?_
            exact ih _ _ _ _ R H
          · replace H := hT c63 H
            refine mm_aload_n dL_law_395 rfl ?_
            refine mm_iconst (v := 0) dL_law_396 (by decide +kernel) ?_
            obtain ⟨b64, H⟩ := hB H
            refine rD_lald lay_146 rfl dL_law_397 R b64 ?_
            refine mm_iload dL_law_398 rfl ?_
            refine mm_i2l dL_law_400 ?_
            refine mm_lcmp dL_law_401 ?_
            refine mm_if_eq 407 dL_law_402 (by decide) (fun c65 => ?_) (fun c65 => ?_)
            · replace H := hT c65 H
              refine mm_goto 1504 dL_law_407 (by decide) ?_
              refine mm_iinc (v := (x4 + 6)) (ls' := [some (.ref 0), some (.ref 64), some (.ref 113), some (.ref 146), some (.int (x4 + 6)), some (.int q55.1), some (.int q58.1)]) dL_law_1504 rfl rfl rfl ?_
              refine mm_goto 23 dL_law_1507 (by decide) ?_
              refine mm_fgt (ls' := [some (.ref 0), some (.ref 64), some (.ref 113), some (.ref 146), some (.int (x4 + 6)), none, none]) ⟨rfl, rfl, rfl, rfl, rfl, trivial⟩ ?_
              exact ih _ _ _ _ R H
            · replace H := hF c65 H
              refine mm_iconst (v := 0) dL_law_405 (by decide +kernel) ?_
              refine mm_iret rfl rfl dL_law_406 ?_
              exact KR _ _ (Option.some.inj H).symm R
        · replace H := hF c62 H
          refine mm_iconst (v := 0) dL_law_388 (by decide +kernel) ?_
          refine mm_iret rfl rfl dL_law_389 ?_
          exact KR _ _ (Option.some.inj H).symm R
      replace H := hF c53 H
      by_cases c66 : ((mm_sX g (x4).toNatClampNeg) &&& 31) = 5
      · replace H := hT c66 H
        refine mm_tabIn 410 dL_law_40 (by rw [c66]; decide) (by rw [c66]; decide) (by rw [c66]; rfl) (by decide) ?_
        refine mm_aload_n dL_law_410 rfl ?_
        refine mm_aload_n dL_law_411 rfl ?_
        refine mm_iload dL_law_412 rfl ?_
        refine mm_iconst (v := 1) dL_law_414 (by decide +kernel) ?_
        refine mm_iadd dL_law_415 ?_
        obtain ⟨b67, H⟩ := hB H
        refine mm_sld dL_law_416 (inb_vp b67) ?_
        refine mm_aload_n dL_law_417 rfl ?_
        refine mm_iload dL_law_418 rfl ?_
        refine mm_iconst (v := 2) dL_law_420 (by decide +kernel) ?_
        refine mm_iadd dL_law_421 ?_
        obtain ⟨b68, H⟩ := hB H
        refine mm_sld dL_law_422 (inb_vp b68) ?_
        refine mm_aload_n dL_law_423 rfl ?_
        obtain ⟨q69, H70, H⟩ := hC H
        refine mm_callSW (d' := d - 1) (as := [.ref 64, .int (mm_sX g ((x4 + 1)).toNatClampNeg), .int (mm_sX g ((x4 + 2)).toNatClampNeg), .ref 146]) (st := []) (dS hd) cm_L_about (mm_t4 211 rfl rfl) (mm_t4 212 rfl rfl) dL_law_424 rfl (Nat.le_of_ble_eq_true rfl) (Nat.le_of_ble_eq_true rfl) rfl rfl (t_L_about (dL hd (by decide)) R H70) (fun E h1 q => by cases q.1) (fun v h q => th_lI q (fun R => ?_))
        refine mm_istore (ls' := [some (.ref 0), some (.ref 64), some (.ref 113), some (.ref 146), some (.int x4), some (.int q69.1), none]) dL_law_427 (Nat.le_of_ble_eq_true rfl) rfl ?_
        refine mm_aload_n dL_law_429 rfl ?_
        refine mm_aload_n dL_law_430 rfl ?_
        refine mm_iload dL_law_431 rfl ?_
        refine mm_iconst (v := 1) dL_law_433 (by decide +kernel) ?_
        refine mm_iadd dL_law_434 ?_
        obtain ⟨b71, H⟩ := hB H
        refine mm_sld dL_law_435 (inb_vp b71) ?_
        refine mm_aload_n dL_law_436 rfl ?_
        refine mm_iload dL_law_437 rfl ?_
        refine mm_iconst (v := 2) dL_law_439 (by decide +kernel) ?_
        refine mm_iadd dL_law_440 ?_
        obtain ⟨b72, H⟩ := hB H
        refine mm_sld dL_law_441 (inb_vp b72) ?_
        obtain ⟨q73, H74, H⟩ := hC H
        refine mm_callV (d' := d - 1) (as := [.int (mm_sX g ((x4 + 1)).toNatClampNeg), .int (mm_sX g ((x4 + 2)).toNatClampNeg)]) (st := []) (dS hd) cm_X12_about (mm_t6 217 rfl rfl) (mm_t6 218 rfl rfl) (mm_t6 219 rfl rfl) (T := TX12) (N := 54) rfl dL_law_442 (R.oD (r := 113) rfl lay_113) rfl (Nat.le_of_ble_eq_true rfl) (Nat.le_of_ble_eq_true rfl) rfl rfl (t_X12_about (dL hd (by decide)) R H74) (fun o h q => th_dI q (fun R => ?_))
        refine mm_istore (ls' := [some (.ref 0), some (.ref 64), some (.ref 113), some (.ref 146), some (.int x4), some (.int q69.1), some (.int q73.1)]) dL_law_445 (Nat.le_of_ble_eq_true rfl) rfl ?_
        refine mm_aload_n dL_law_447 rfl ?_
        obtain ⟨q75, H76, H⟩ := hC H
        refine mm_callV (d' := d - 1) (as := []) (st := []) (dS hd) cm_X12_thrown (mm_t6 117 rfl rfl) (mm_t6 118 rfl rfl) (mm_t6 119 rfl rfl) (T := TX12) (N := 54) rfl dL_law_448 (R.oD (r := 113) rfl lay_113) rfl (Nat.le_of_ble_eq_true rfl) (Nat.le_of_ble_eq_true rfl) rfl rfl (t_X12_thrown (dL hd (by decide)) R H76) (fun o u q => mm_thenI q ?_)
        refine mm_iload dL_law_451 rfl ?_
        refine mm_icmp_eq 458 dL_law_453 (by decide) (fun c77 => ?_) (fun c77 => ?_)
        · replace H := hT c77 H
          refine mm_iload dL_law_458 rfl ?_
          refine mm_if_ne 475 dL_law_460 (by decide) (fun c78 => ?_) (fun c78 => ?_)
          · replace H := hF c78 H
            refine mm_goto 1504 dL_law_475 (by decide) ?_
            refine mm_iinc (v := (x4 + 6)) (ls' := [some (.ref 0), some (.ref 64), some (.ref 113), some (.ref 146), some (.int (x4 + 6)), some (.int q69.1), some (.int q73.1)]) dL_law_1504 rfl rfl rfl ?_
            refine mm_goto 23 dL_law_1507 (by decide) ?_
            refine mm_fgt (ls' := [some (.ref 0), some (.ref 64), some (.ref 113), some (.ref 146), some (.int (x4 + 6)), none, none]) ⟨rfl, rfl, rfl, rfl, rfl, trivial⟩ ?_
            exact ih _ _ _ _ R H
          · replace H := hT c78 H
            refine mm_aload_n dL_law_463 rfl ?_
            refine mm_iconst (v := 0) dL_law_464 (by decide +kernel) ?_
            obtain ⟨b79, H⟩ := hB H
            refine rD_lald lay_146 rfl dL_law_465 R b79 ?_
            refine mm_iload dL_law_466 rfl ?_
            refine mm_i2l dL_law_468 ?_
            refine mm_lcmp dL_law_469 ?_
            refine mm_if_eq 475 dL_law_470 (by decide) (fun c80 => ?_) (fun c80 => ?_)
            · replace H := hT c80 H
              refine mm_goto 1504 dL_law_475 (by decide) ?_
              refine mm_iinc (v := (x4 + 6)) (ls' := [some (.ref 0), some (.ref 64), some (.ref 113), some (.ref 146), some (.int (x4 + 6)), some (.int q69.1), some (.int q73.1)]) dL_law_1504 rfl rfl rfl ?_
              refine mm_goto 23 dL_law_1507 (by decide) ?_
              refine mm_fgt (ls' := [some (.ref 0), some (.ref 64), some (.ref 113), some (.ref 146), some (.int (x4 + 6)), none, none]) ⟨rfl, rfl, rfl, rfl, rfl, trivial⟩ ?_
              exact ih _ _ _ _ R H
            · replace H := hF c80 H
              refine mm_iconst (v := 0) dL_law_473 (by decide +kernel) ?_
              refine mm_iret rfl rfl dL_law_474 ?_
              exact KR _ _ (Option.some.inj H).symm R
        · replace H := hF c77 H
          refine mm_iconst (v := 0) dL_law_456 (by decide +kernel) ?_
          refine mm_iret rfl rfl dL_law_457 ?_
          exact KR _ _ (Option.some.inj H).symm R
      replace H := hF c66 H
      by_cases c81 : ((mm_sX g (x4).toNatClampNeg) &&& 31) = 6
      · replace H := hT c81 H
        refine mm_tabIn 478 dL_law_40 (by rw [c81]; decide) (by rw [c81]; decide) (by rw [c81]; rfl) (by decide) ?_
        refine mm_aload_n dL_law_478 rfl ?_
        refine mm_aload_n dL_law_479 rfl ?_
        refine mm_iload dL_law_480 rfl ?_
        refine mm_iconst (v := 1) dL_law_482 (by decide +kernel) ?_
        refine mm_iadd dL_law_483 ?_
        obtain ⟨b82, H⟩ := hB H
        refine mm_sld dL_law_484 (inb_vp b82) ?_
        refine mm_aload_n dL_law_485 rfl ?_
        refine mm_iload dL_law_486 rfl ?_
        refine mm_iconst (v := 2) dL_law_488 (by decide +kernel) ?_
        refine mm_iadd dL_law_489 ?_
        obtain ⟨b83, H⟩ := hB H
        refine mm_sld dL_law_490 (inb_vp b83) ?_
        obtain ⟨q84, H85, H⟩ := hC H
        refine mm_callV (d' := d - 1) (as := [.int (mm_sX g ((x4 + 1)).toNatClampNeg), .int (mm_sX g ((x4 + 2)).toNatClampNeg)]) (st := []) (dS hd) cm_X11_cited (mm_t2 213 rfl rfl) (mm_t2 214 rfl rfl) (mm_t2 215 rfl rfl) (T := TX11) (N := 14) rfl dL_law_491 (R.oC (r := 64) rfl lay_64) rfl (Nat.le_of_ble_eq_true rfl) (Nat.le_of_ble_eq_true rfl) rfl rfl (t_X11_cited (dL hd (by decide)) R H85) (fun o u q => mm_thenI q ?_)
        refine mm_aload_n dL_law_494 rfl ?_
        refine mm_aload_n dL_law_495 rfl ?_
        refine mm_iload dL_law_496 rfl ?_
        refine mm_iconst (v := 1) dL_law_498 (by decide +kernel) ?_
        refine mm_iadd dL_law_499 ?_
        obtain ⟨b86, H⟩ := hB H
        refine mm_sld dL_law_500 (inb_vp b86) ?_
        refine mm_aload_n dL_law_501 rfl ?_
        refine mm_iload dL_law_502 rfl ?_
        refine mm_iconst (v := 2) dL_law_504 (by decide +kernel) ?_
        refine mm_iadd dL_law_505 ?_
        obtain ⟨b87, H⟩ := hB H
        refine mm_sld dL_law_506 (inb_vp b87) ?_
        obtain ⟨q88, H89, H⟩ := hC H
        refine mm_callV (d' := d - 1) (as := [.int (mm_sX g ((x4 + 1)).toNatClampNeg), .int (mm_sX g ((x4 + 2)).toNatClampNeg)]) (st := [.int q84]) (dS hd) cm_X12_cited (mm_t6 225 rfl rfl) (mm_t6 226 rfl rfl) (mm_t6 227 rfl rfl) (T := TX12) (N := 54) rfl dL_law_507 (R.oD (r := 113) rfl lay_113) rfl (Nat.le_of_ble_eq_true rfl) (Nat.le_of_ble_eq_true rfl) rfl rfl (t_X12_cited (dL hd (by decide)) R H89) (fun o h q => th_dI q (fun R => ?_))
        refine mm_icmp_eq 1504 dL_law_510 (by decide) (fun c90 => ?_) (fun c90 => ?_)
        · replace H := hT c90 H
          refine mm_iinc (v := (x4 + 6)) (ls' := [some (.ref 0), some (.ref 64), some (.ref 113), some (.ref 146), some (.int (x4 + 6)), none, none]) dL_law_1504 rfl rfl rfl ?_
          refine mm_goto 23 dL_law_1507 (by decide) ?_
          exact ih _ _ _ _ R H
        · replace H := hF c90 H
          refine mm_iconst (v := 0) dL_law_513 (by decide +kernel) ?_
          refine mm_iret rfl rfl dL_law_514 ?_
          exact KR _ _ (Option.some.inj H).symm R
      replace H := hF c81 H
      by_cases c91 : ((mm_sX g (x4).toNatClampNeg) &&& 31) = 7
      · replace H := hT c91 H
        refine mm_tabIn 515 dL_law_40 (by rw [c91]; decide) (by rw [c91]; decide) (by rw [c91]; rfl) (by decide) ?_
        refine mm_aload_n dL_law_515 rfl ?_
        refine mm_aload_n dL_law_516 rfl ?_
        refine mm_iload dL_law_517 rfl ?_
        refine mm_iconst (v := 1) dL_law_519 (by decide +kernel) ?_
        refine mm_iadd dL_law_520 ?_
        obtain ⟨b92, H⟩ := hB H
        refine mm_sld dL_law_521 (inb_vp b92) ?_
        refine mm_aload_n dL_law_522 rfl ?_
        refine mm_iload dL_law_523 rfl ?_
        refine mm_iconst (v := 2) dL_law_525 (by decide +kernel) ?_
        refine mm_iadd dL_law_526 ?_
        obtain ⟨b93, H⟩ := hB H
        refine mm_sld dL_law_527 (inb_vp b93) ?_
        refine mm_aload_n dL_law_528 rfl ?_
        obtain ⟨q94, H95, H⟩ := hC H
        refine mm_callSW (d' := d - 1) (as := [.ref 64, .int (mm_sX g ((x4 + 1)).toNatClampNeg), .int (mm_sX g ((x4 + 2)).toNatClampNeg), .ref 146]) (st := []) (dS hd) cm_L_fact (mm_t4 224 rfl rfl) (mm_t4 225 rfl rfl) dL_law_529 rfl (Nat.le_of_ble_eq_true rfl) (Nat.le_of_ble_eq_true rfl) rfl rfl (t_L_fact (dL hd (by decide)) R H95) (fun E h1 q => by cases q.1) (fun v h q => th_lI q (fun R => ?_))
        refine mm_istore (ls' := [some (.ref 0), some (.ref 64), some (.ref 113), some (.ref 146), some (.int x4), some (.int q94.1), none]) dL_law_532 (Nat.le_of_ble_eq_true rfl) rfl ?_
        refine mm_aload_n dL_law_534 rfl ?_
        refine mm_aload_n dL_law_535 rfl ?_
        refine mm_iload dL_law_536 rfl ?_
        refine mm_iconst (v := 1) dL_law_538 (by decide +kernel) ?_
        refine mm_iadd dL_law_539 ?_
        obtain ⟨b96, H⟩ := hB H
        refine mm_sld dL_law_540 (inb_vp b96) ?_
        refine mm_aload_n dL_law_541 rfl ?_
        refine mm_iload dL_law_542 rfl ?_
        refine mm_iconst (v := 2) dL_law_544 (by decide +kernel) ?_
        refine mm_iadd dL_law_545 ?_
        obtain ⟨b97, H⟩ := hB H
        refine mm_sld dL_law_546 (inb_vp b97) ?_
        obtain ⟨q98, H99, H⟩ := hC H
        refine mm_callV (d' := d - 1) (as := [.int (mm_sX g ((x4 + 1)).toNatClampNeg), .int (mm_sX g ((x4 + 2)).toNatClampNeg)]) (st := []) (dS hd) cm_X12_fact (mm_t6 229 rfl rfl) (mm_t6 230 rfl rfl) (mm_t6 231 rfl rfl) (T := TX12) (N := 54) rfl dL_law_547 (R.oD (r := 113) rfl lay_113) rfl (Nat.le_of_ble_eq_true rfl) (Nat.le_of_ble_eq_true rfl) rfl rfl (t_X12_fact (dL hd (by decide)) R H99) (fun o h q => th_dI q (fun R => ?_))
        refine mm_istore (ls' := [some (.ref 0), some (.ref 64), some (.ref 113), some (.ref 146), some (.int x4), some (.int q94.1), some (.int q98.1)]) dL_law_550 (Nat.le_of_ble_eq_true rfl) rfl ?_
        refine mm_aload_n dL_law_552 rfl ?_
        obtain ⟨q100, H101, H⟩ := hC H
        refine mm_callV (d' := d - 1) (as := []) (st := []) (dS hd) cm_X12_thrown (mm_t6 117 rfl rfl) (mm_t6 118 rfl rfl) (mm_t6 119 rfl rfl) (T := TX12) (N := 54) rfl dL_law_553 (R.oD (r := 113) rfl lay_113) rfl (Nat.le_of_ble_eq_true rfl) (Nat.le_of_ble_eq_true rfl) rfl rfl (t_X12_thrown (dL hd (by decide)) R H101) (fun o u q => mm_thenI q ?_)
        refine mm_iload dL_law_556 rfl ?_
        refine mm_icmp_eq 563 dL_law_558 (by decide) (fun c102 => ?_) (fun c102 => ?_)
        · replace H := hT c102 H
          refine mm_iload dL_law_563 rfl ?_
          refine mm_if_ne 580 dL_law_565 (by decide) (fun c103 => ?_) (fun c103 => ?_)
          · replace H := hF c103 H
            refine mm_goto 1504 dL_law_580 (by decide) ?_
            refine mm_iinc (v := (x4 + 6)) (ls' := [some (.ref 0), some (.ref 64), some (.ref 113), some (.ref 146), some (.int (x4 + 6)), some (.int q94.1), some (.int q98.1)]) dL_law_1504 rfl rfl rfl ?_
            refine mm_goto 23 dL_law_1507 (by decide) ?_
            refine mm_fgt (ls' := [some (.ref 0), some (.ref 64), some (.ref 113), some (.ref 146), some (.int (x4 + 6)), none, none]) ⟨rfl, rfl, rfl, rfl, rfl, trivial⟩ ?_
            exact ih _ _ _ _ R H
          · replace H := hT c103 H
            refine mm_aload_n dL_law_568 rfl ?_
            refine mm_iconst (v := 0) dL_law_569 (by decide +kernel) ?_
            obtain ⟨b104, H⟩ := hB H
            refine rD_lald lay_146 rfl dL_law_570 R b104 ?_
            refine mm_iload dL_law_571 rfl ?_
            refine mm_i2l dL_law_573 ?_
            refine mm_lcmp dL_law_574 ?_
            refine mm_if_eq 580 dL_law_575 (by decide) (fun c105 => ?_) (fun c105 => ?_)
            · replace H := hT c105 H
              refine mm_goto 1504 dL_law_580 (by decide) ?_
              refine mm_iinc (v := (x4 + 6)) (ls' := [some (.ref 0), some (.ref 64), some (.ref 113), some (.ref 146), some (.int (x4 + 6)), some (.int q94.1), some (.int q98.1)]) dL_law_1504 rfl rfl rfl ?_
              refine mm_goto 23 dL_law_1507 (by decide) ?_
              refine mm_fgt (ls' := [some (.ref 0), some (.ref 64), some (.ref 113), some (.ref 146), some (.int (x4 + 6)), none, none]) ⟨rfl, rfl, rfl, rfl, rfl, trivial⟩ ?_
              exact ih _ _ _ _ R H
            · replace H := hF c105 H
              refine mm_iconst (v := 0) dL_law_578 (by decide +kernel) ?_
              refine mm_iret rfl rfl dL_law_579 ?_
              exact KR _ _ (Option.some.inj H).symm R
        · replace H := hF c102 H
          refine mm_iconst (v := 0) dL_law_561 (by decide +kernel) ?_
          refine mm_iret rfl rfl dL_law_562 ?_
          exact KR _ _ (Option.some.inj H).symm R
      replace H := hF c91 H
      by_cases c106 : ((mm_sX g (x4).toNatClampNeg) &&& 31) = 8
      · replace H := hT c106 H
        refine mm_tabIn 583 dL_law_40 (by rw [c106]; decide) (by rw [c106]; decide) (by rw [c106]; rfl) (by decide) ?_
        refine mm_aload_n dL_law_583 rfl ?_
        refine mm_aload_n dL_law_584 rfl ?_
        refine mm_iload dL_law_585 rfl ?_
        refine mm_iconst (v := 1) dL_law_587 (by decide +kernel) ?_
        refine mm_iadd dL_law_588 ?_
        obtain ⟨b107, H⟩ := hB H
        refine mm_sld dL_law_589 (inb_vp b107) ?_
        refine mm_aload_n dL_law_590 rfl ?_
        refine mm_iload dL_law_591 rfl ?_
        refine mm_iconst (v := 2) dL_law_593 (by decide +kernel) ?_
        refine mm_iadd dL_law_594 ?_
        obtain ⟨b108, H⟩ := hB H
        refine mm_sld dL_law_595 (inb_vp b108) ?_
        refine mm_aload_n dL_law_596 rfl ?_
        obtain ⟨q109, H110, H⟩ := hC H
        refine mm_callSW (d' := d - 1) (as := [.ref 64, .int (mm_sX g ((x4 + 1)).toNatClampNeg), .int (mm_sX g ((x4 + 2)).toNatClampNeg), .ref 146]) (st := []) (dS hd) cm_L_stands (mm_t4 234 rfl rfl) (mm_t4 235 rfl rfl) dL_law_597 rfl (Nat.le_of_ble_eq_true rfl) (Nat.le_of_ble_eq_true rfl) rfl rfl (t_L_stands (dL hd (by decide)) R H110) (fun E h1 q => by cases q.1) (fun v h q => th_lI q (fun R => ?_))
        refine mm_istore (ls' := [some (.ref 0), some (.ref 64), some (.ref 113), some (.ref 146), some (.int x4), some (.int q109.1), none]) dL_law_600 (Nat.le_of_ble_eq_true rfl) rfl ?_
        refine mm_aload_n dL_law_602 rfl ?_
        refine mm_aload_n dL_law_603 rfl ?_
        refine mm_iload dL_law_604 rfl ?_
        refine mm_iconst (v := 1) dL_law_606 (by decide +kernel) ?_
        refine mm_iadd dL_law_607 ?_
        obtain ⟨b111, H⟩ := hB H
        refine mm_sld dL_law_608 (inb_vp b111) ?_
        refine mm_aload_n dL_law_609 rfl ?_
        refine mm_iload dL_law_610 rfl ?_
        refine mm_iconst (v := 2) dL_law_612 (by decide +kernel) ?_
        refine mm_iadd dL_law_613 ?_
        obtain ⟨b112, H⟩ := hB H
        refine mm_sld dL_law_614 (inb_vp b112) ?_
        obtain ⟨q113, H114, H⟩ := hC H
        refine mm_callV (d' := d - 1) (as := [.int (mm_sX g ((x4 + 1)).toNatClampNeg), .int (mm_sX g ((x4 + 2)).toNatClampNeg)]) (st := []) (dS hd) cm_X12_stands (mm_t6 237 rfl rfl) (mm_t6 238 rfl rfl) (mm_t6 239 rfl rfl) (T := TX12) (N := 54) rfl dL_law_615 (R.oD (r := 113) rfl lay_113) rfl (Nat.le_of_ble_eq_true rfl) (Nat.le_of_ble_eq_true rfl) rfl rfl (t_X12_stands (dL hd (by decide)) R H114) (fun o h q => th_dI q (fun R => ?_))
        refine mm_istore (ls' := [some (.ref 0), some (.ref 64), some (.ref 113), some (.ref 146), some (.int x4), some (.int q109.1), some (.int q113.1)]) dL_law_618 (Nat.le_of_ble_eq_true rfl) rfl ?_
        refine mm_aload_n dL_law_620 rfl ?_
        obtain ⟨q115, H116, H⟩ := hC H
        refine mm_callV (d' := d - 1) (as := []) (st := []) (dS hd) cm_X12_thrown (mm_t6 117 rfl rfl) (mm_t6 118 rfl rfl) (mm_t6 119 rfl rfl) (T := TX12) (N := 54) rfl dL_law_621 (R.oD (r := 113) rfl lay_113) rfl (Nat.le_of_ble_eq_true rfl) (Nat.le_of_ble_eq_true rfl) rfl rfl (t_X12_thrown (dL hd (by decide)) R H116) (fun o u q => mm_thenI q ?_)
        refine mm_iload dL_law_624 rfl ?_
        refine mm_icmp_eq 631 dL_law_626 (by decide) (fun c117 => ?_) (fun c117 => ?_)
        · replace H := hT c117 H
          refine mm_iload dL_law_631 rfl ?_
          refine mm_if_ne 648 dL_law_633 (by decide) (fun c118 => ?_) (fun c118 => ?_)
          · replace H := hF c118 H
            refine mm_goto 1504 dL_law_648 (by decide) ?_
            refine mm_iinc (v := (x4 + 6)) (ls' := [some (.ref 0), some (.ref 64), some (.ref 113), some (.ref 146), some (.int (x4 + 6)), some (.int q109.1), some (.int q113.1)]) dL_law_1504 rfl rfl rfl ?_
            refine mm_goto 23 dL_law_1507 (by decide) ?_
            refine mm_fgt (ls' := [some (.ref 0), some (.ref 64), some (.ref 113), some (.ref 146), some (.int (x4 + 6)), none, none]) ⟨rfl, rfl, rfl, rfl, rfl, trivial⟩ ?_
            exact ih _ _ _ _ R H
          · replace H := hT c118 H
            refine mm_aload_n dL_law_636 rfl ?_
            refine mm_iconst (v := 0) dL_law_637 (by decide +kernel) ?_
            obtain ⟨b119, H⟩ := hB H
            refine rD_lald lay_146 rfl dL_law_638 R b119 ?_
            refine mm_iload dL_law_639 rfl ?_
            refine mm_i2l dL_law_641 ?_
            refine mm_lcmp dL_law_642 ?_
            refine mm_if_eq 648 dL_law_643 (by decide) (fun c120 => ?_) (fun c120 => ?_)
            · replace H := hT c120 H
              refine mm_goto 1504 dL_law_648 (by decide) ?_
              refine mm_iinc (v := (x4 + 6)) (ls' := [some (.ref 0), some (.ref 64), some (.ref 113), some (.ref 146), some (.int (x4 + 6)), some (.int q109.1), some (.int q113.1)]) dL_law_1504 rfl rfl rfl ?_
              refine mm_goto 23 dL_law_1507 (by decide) ?_
              refine mm_fgt (ls' := [some (.ref 0), some (.ref 64), some (.ref 113), some (.ref 146), some (.int (x4 + 6)), none, none]) ⟨rfl, rfl, rfl, rfl, rfl, trivial⟩ ?_
              exact ih _ _ _ _ R H
            · replace H := hF c120 H
              refine mm_iconst (v := 0) dL_law_646 (by decide +kernel) ?_
              refine mm_iret rfl rfl dL_law_647 ?_
              exact KR _ _ (Option.some.inj H).symm R
        · replace H := hF c117 H
          refine mm_iconst (v := 0) dL_law_629 (by decide +kernel) ?_
          refine mm_iret rfl rfl dL_law_630 ?_
          exact KR _ _ (Option.some.inj H).symm R
      replace H := hF c106 H
      by_cases c121 : ((mm_sX g (x4).toNatClampNeg) &&& 31) = 9
      · replace H := hT c121 H
        refine mm_tabIn 651 dL_law_40 (by rw [c121]; decide) (by rw [c121]; decide) (by rw [c121]; rfl) (by decide) ?_
        refine mm_aload_n dL_law_651 rfl ?_
        refine mm_aload_n dL_law_652 rfl ?_
        refine mm_iload dL_law_653 rfl ?_
        refine mm_iconst (v := 1) dL_law_655 (by decide +kernel) ?_
        refine mm_iadd dL_law_656 ?_
        obtain ⟨b122, H⟩ := hB H
        refine mm_sld dL_law_657 (inb_vp b122) ?_
        obtain ⟨q123, H124, H⟩ := hC H
        refine mm_callV (d' := d - 1) (as := [.int (mm_sX g ((x4 + 1)).toNatClampNeg)]) (st := []) (dS hd) cm_X11_quarrels (mm_t2 221 rfl rfl) (mm_t2 222 rfl rfl) (mm_t2 223 rfl rfl) (T := TX11) (N := 14) rfl dL_law_658 (R.oC (r := 64) rfl lay_64) rfl (Nat.le_of_ble_eq_true rfl) (Nat.le_of_ble_eq_true rfl) rfl rfl (t_X11_quarrels (dL hd (by decide)) R H124) (fun o h q => th_cI q (fun R => ?_))
        refine mm_aload_n dL_law_661 rfl ?_
        refine mm_aload_n dL_law_662 rfl ?_
        refine mm_iload dL_law_663 rfl ?_
        refine mm_iconst (v := 1) dL_law_665 (by decide +kernel) ?_
        refine mm_iadd dL_law_666 ?_
        obtain ⟨b125, H⟩ := hB H
        refine mm_sld dL_law_667 (inb_vp b125) ?_
        obtain ⟨q126, H127, H⟩ := hC H
        refine mm_callV (d' := d - 1) (as := [.int (mm_sX g ((x4 + 1)).toNatClampNeg)]) (st := [.int q123.1]) (dS hd) cm_X12_quarrels (mm_t7 17 rfl rfl) (mm_t7 18 rfl rfl) (mm_t7 19 rfl rfl) (T := TX12) (N := 54) rfl dL_law_668 (R.oD (r := 113) rfl lay_113) rfl (Nat.le_of_ble_eq_true rfl) (Nat.le_of_ble_eq_true rfl) rfl rfl (t_X12_quarrels (dL hd (by decide)) R H127) (fun o h q => th_dI q (fun R => ?_))
        refine mm_icmp_eq 1504 dL_law_671 (by decide) (fun c128 => ?_) (fun c128 => ?_)
        · replace H := hT c128 H
          refine mm_iinc (v := (x4 + 6)) (ls' := [some (.ref 0), some (.ref 64), some (.ref 113), some (.ref 146), some (.int (x4 + 6)), none, none]) dL_law_1504 rfl rfl rfl ?_
          refine mm_goto 23 dL_law_1507 (by decide) ?_
          exact ih _ _ _ _ R H
        · replace H := hF c128 H
          refine mm_iconst (v := 0) dL_law_674 (by decide +kernel) ?_
          refine mm_iret rfl rfl dL_law_675 ?_
          exact KR _ _ (Option.some.inj H).symm R
      replace H := hF c121 H
      by_cases c129 : ((mm_sX g (x4).toNatClampNeg) &&& 31) = 10
      · replace H := hT c129 H
        refine mm_tabIn 676 dL_law_40 (by rw [c129]; decide) (by rw [c129]; decide) (by rw [c129]; rfl) (by decide) ?_
        refine mm_aload_n dL_law_676 rfl ?_
        refine mm_aload_n dL_law_677 rfl ?_
        refine mm_iload dL_law_678 rfl ?_
        refine mm_iconst (v := 1) dL_law_680 (by decide +kernel) ?_
        refine mm_iadd dL_law_681 ?_
        obtain ⟨b130, H⟩ := hB H
        refine mm_sld dL_law_682 (inb_vp b130) ?_
        refine mm_aload_n dL_law_683 rfl ?_
        refine mm_iload dL_law_684 rfl ?_
        refine mm_iconst (v := 2) dL_law_686 (by decide +kernel) ?_
        refine mm_iadd dL_law_687 ?_
        obtain ⟨b131, H⟩ := hB H
        refine mm_sld dL_law_688 (inb_vp b131) ?_
        refine mm_aload_n dL_law_689 rfl ?_
        refine mm_iload dL_law_690 rfl ?_
        refine mm_iconst (v := 3) dL_law_692 (by decide +kernel) ?_
        refine mm_iadd dL_law_693 ?_
        obtain ⟨b132, H⟩ := hB H
        refine mm_sld dL_law_694 (inb_vp b132) ?_
        refine mm_aload_n dL_law_695 rfl ?_
        obtain ⟨q133, H134, H⟩ := hC H
        refine mm_callSW (d' := d - 1) (as := [.ref 64, .int (mm_sX g ((x4 + 1)).toNatClampNeg), .int (mm_sX g ((x4 + 2)).toNatClampNeg), .int (mm_sX g ((x4 + 3)).toNatClampNeg), .ref 146]) (st := []) (dS hd) cm_L_quarrel (mm_t5 2 rfl rfl) (mm_t5 3 rfl rfl) dL_law_696 rfl (Nat.le_of_ble_eq_true rfl) (Nat.le_of_ble_eq_true rfl) rfl rfl (t_L_quarrel (dL hd (by decide)) R H134) (fun E h1 q => by cases q.1) (fun v h q => th_lI q (fun R => ?_))
        refine mm_istore (ls' := [some (.ref 0), some (.ref 64), some (.ref 113), some (.ref 146), some (.int x4), some (.int q133.1), none]) dL_law_699 (Nat.le_of_ble_eq_true rfl) rfl ?_
        refine mm_aload_n dL_law_701 rfl ?_
        refine mm_aload_n dL_law_702 rfl ?_
        refine mm_iload dL_law_703 rfl ?_
        refine mm_iconst (v := 1) dL_law_705 (by decide +kernel) ?_
        refine mm_iadd dL_law_706 ?_
        obtain ⟨b135, H⟩ := hB H
        refine mm_sld dL_law_707 (inb_vp b135) ?_
        refine mm_aload_n dL_law_708 rfl ?_
        refine mm_iload dL_law_709 rfl ?_
        refine mm_iconst (v := 2) dL_law_711 (by decide +kernel) ?_
        refine mm_iadd dL_law_712 ?_
        obtain ⟨b136, H⟩ := hB H
        refine mm_sld dL_law_713 (inb_vp b136) ?_
        refine mm_aload_n dL_law_714 rfl ?_
        refine mm_iload dL_law_715 rfl ?_
        refine mm_iconst (v := 3) dL_law_717 (by decide +kernel) ?_
        refine mm_iadd dL_law_718 ?_
        obtain ⟨b137, H⟩ := hB H
        refine mm_sld dL_law_719 (inb_vp b137) ?_
        obtain ⟨q138, H139, H⟩ := hC H
        refine mm_callV (d' := d - 1) (as := [.int (mm_sX g ((x4 + 1)).toNatClampNeg), .int (mm_sX g ((x4 + 2)).toNatClampNeg), .int (mm_sX g ((x4 + 3)).toNatClampNeg)]) (st := []) (dS hd) cm_X12_quarrel (mm_t7 25 rfl rfl) (mm_t7 26 rfl rfl) (mm_t7 27 rfl rfl) (T := TX12) (N := 54) rfl dL_law_720 (R.oD (r := 113) rfl lay_113) rfl (Nat.le_of_ble_eq_true rfl) (Nat.le_of_ble_eq_true rfl) rfl rfl (t_X12_quarrel (dL hd (by decide)) R H139) (fun o h q => th_dI q (fun R => ?_))
        refine mm_istore (ls' := [some (.ref 0), some (.ref 64), some (.ref 113), some (.ref 146), some (.int x4), some (.int q133.1), some (.int q138.1)]) dL_law_723 (Nat.le_of_ble_eq_true rfl) rfl ?_
        refine mm_aload_n dL_law_725 rfl ?_
        obtain ⟨q140, H141, H⟩ := hC H
        refine mm_callV (d' := d - 1) (as := []) (st := []) (dS hd) cm_X12_thrown (mm_t6 117 rfl rfl) (mm_t6 118 rfl rfl) (mm_t6 119 rfl rfl) (T := TX12) (N := 54) rfl dL_law_726 (R.oD (r := 113) rfl lay_113) rfl (Nat.le_of_ble_eq_true rfl) (Nat.le_of_ble_eq_true rfl) rfl rfl (t_X12_thrown (dL hd (by decide)) R H141) (fun o u q => mm_thenI q ?_)
        refine mm_iload dL_law_729 rfl ?_
        refine mm_icmp_eq 736 dL_law_731 (by decide) (fun c142 => ?_) (fun c142 => ?_)
        · replace H := hT c142 H
          refine mm_iload dL_law_736 rfl ?_
          refine mm_if_ne 753 dL_law_738 (by decide) (fun c143 => ?_) (fun c143 => ?_)
          · replace H := hF c143 H
            refine mm_goto 1504 dL_law_753 (by decide) ?_
            refine mm_iinc (v := (x4 + 6)) (ls' := [some (.ref 0), some (.ref 64), some (.ref 113), some (.ref 146), some (.int (x4 + 6)), some (.int q133.1), some (.int q138.1)]) dL_law_1504 rfl rfl rfl ?_
            refine mm_goto 23 dL_law_1507 (by decide) ?_
            refine mm_fgt (ls' := [some (.ref 0), some (.ref 64), some (.ref 113), some (.ref 146), some (.int (x4 + 6)), none, none]) ⟨rfl, rfl, rfl, rfl, rfl, trivial⟩ ?_
            exact ih _ _ _ _ R H
          · replace H := hT c143 H
            refine mm_aload_n dL_law_741 rfl ?_
            refine mm_iconst (v := 0) dL_law_742 (by decide +kernel) ?_
            obtain ⟨b144, H⟩ := hB H
            refine rD_lald lay_146 rfl dL_law_743 R b144 ?_
            refine mm_iload dL_law_744 rfl ?_
            refine mm_i2l dL_law_746 ?_
            refine mm_lcmp dL_law_747 ?_
            refine mm_if_eq 753 dL_law_748 (by decide) (fun c145 => ?_) (fun c145 => ?_)
            · replace H := hT c145 H
              refine mm_goto 1504 dL_law_753 (by decide) ?_
              refine mm_iinc (v := (x4 + 6)) (ls' := [some (.ref 0), some (.ref 64), some (.ref 113), some (.ref 146), some (.int (x4 + 6)), some (.int q133.1), some (.int q138.1)]) dL_law_1504 rfl rfl rfl ?_
              refine mm_goto 23 dL_law_1507 (by decide) ?_
              refine mm_fgt (ls' := [some (.ref 0), some (.ref 64), some (.ref 113), some (.ref 146), some (.int (x4 + 6)), none, none]) ⟨rfl, rfl, rfl, rfl, rfl, trivial⟩ ?_
              exact ih _ _ _ _ R H
            · replace H := hF c145 H
              refine mm_iconst (v := 0) dL_law_751 (by decide +kernel) ?_
              refine mm_iret rfl rfl dL_law_752 ?_
              exact KR _ _ (Option.some.inj H).symm R
        · replace H := hF c142 H
          refine mm_iconst (v := 0) dL_law_734 (by decide +kernel) ?_
          refine mm_iret rfl rfl dL_law_735 ?_
          exact KR _ _ (Option.some.inj H).symm R
      replace H := hF c129 H
      by_cases c146 : ((mm_sX g (x4).toNatClampNeg) &&& 31) = 11
      · replace H := hT c146 H
        refine mm_tabIn 756 dL_law_40 (by rw [c146]; decide) (by rw [c146]; decide) (by rw [c146]; rfl) (by decide) ?_
        refine mm_aload_n dL_law_756 rfl ?_
        refine mm_aload_n dL_law_757 rfl ?_
        refine mm_iload dL_law_758 rfl ?_
        refine mm_iconst (v := 1) dL_law_760 (by decide +kernel) ?_
        refine mm_iadd dL_law_761 ?_
        obtain ⟨b147, H⟩ := hB H
        refine mm_sld dL_law_762 (inb_vp b147) ?_
        refine mm_aload_n dL_law_763 rfl ?_
        refine mm_iload dL_law_764 rfl ?_
        refine mm_iconst (v := 2) dL_law_766 (by decide +kernel) ?_
        refine mm_iadd dL_law_767 ?_
        obtain ⟨b148, H⟩ := hB H
        refine mm_sld dL_law_768 (inb_vp b148) ?_
        refine mm_aload_n dL_law_769 rfl ?_
        obtain ⟨q149, H150, H⟩ := hC H
        refine mm_callSW (d' := d - 1) (as := [.ref 64, .int (mm_sX g ((x4 + 1)).toNatClampNeg), .int (mm_sX g ((x4 + 2)).toNatClampNeg), .ref 146]) (st := []) (dS hd) cm_L_mention (mm_t5 9 rfl rfl) (mm_t5 10 rfl rfl) dL_law_770 rfl (Nat.le_of_ble_eq_true rfl) (Nat.le_of_ble_eq_true rfl) rfl rfl (t_L_mention (dL hd (by decide)) R H150) (fun E h1 q => by cases q.1) (fun v h q => th_lI q (fun R => ?_))
        refine mm_istore (ls' := [some (.ref 0), some (.ref 64), some (.ref 113), some (.ref 146), some (.int x4), some (.int q149.1), none]) dL_law_773 (Nat.le_of_ble_eq_true rfl) rfl ?_
        refine mm_aload_n dL_law_775 rfl ?_
        refine mm_aload_n dL_law_776 rfl ?_
        refine mm_iload dL_law_777 rfl ?_
        refine mm_iconst (v := 1) dL_law_779 (by decide +kernel) ?_
        refine mm_iadd dL_law_780 ?_
        obtain ⟨b151, H⟩ := hB H
        refine mm_sld dL_law_781 (inb_vp b151) ?_
        refine mm_aload_n dL_law_782 rfl ?_
        refine mm_iload dL_law_783 rfl ?_
        refine mm_iconst (v := 2) dL_law_785 (by decide +kernel) ?_
        refine mm_iadd dL_law_786 ?_
        obtain ⟨b152, H⟩ := hB H
        refine mm_sld dL_law_787 (inb_vp b152) ?_
        obtain ⟨q153, H154, H⟩ := hC H
        refine mm_callV (d' := d - 1) (as := [.int (mm_sX g ((x4 + 1)).toNatClampNeg), .int (mm_sX g ((x4 + 2)).toNatClampNeg)]) (st := []) (dS hd) cm_X12_mention (mm_t7 29 rfl rfl) (mm_t7 30 rfl rfl) (mm_t7 31 rfl rfl) (T := TX12) (N := 54) rfl dL_law_788 (R.oD (r := 113) rfl lay_113) rfl (Nat.le_of_ble_eq_true rfl) (Nat.le_of_ble_eq_true rfl) rfl rfl (t_X12_mention (dL hd (by decide)) R H154) (fun o h q => th_dI q (fun R => ?_))
        refine mm_istore (ls' := [some (.ref 0), some (.ref 64), some (.ref 113), some (.ref 146), some (.int x4), some (.int q149.1), some (.int q153.1)]) dL_law_791 (Nat.le_of_ble_eq_true rfl) rfl ?_
        refine mm_aload_n dL_law_793 rfl ?_
        obtain ⟨q155, H156, H⟩ := hC H
        refine mm_callV (d' := d - 1) (as := []) (st := []) (dS hd) cm_X12_thrown (mm_t6 117 rfl rfl) (mm_t6 118 rfl rfl) (mm_t6 119 rfl rfl) (T := TX12) (N := 54) rfl dL_law_794 (R.oD (r := 113) rfl lay_113) rfl (Nat.le_of_ble_eq_true rfl) (Nat.le_of_ble_eq_true rfl) rfl rfl (t_X12_thrown (dL hd (by decide)) R H156) (fun o u q => mm_thenI q ?_)
        refine mm_iload dL_law_797 rfl ?_
        refine mm_icmp_eq 804 dL_law_799 (by decide) (fun c157 => ?_) (fun c157 => ?_)
        · replace H := hT c157 H
          refine mm_iload dL_law_804 rfl ?_
          refine mm_if_ne 821 dL_law_806 (by decide) (fun c158 => ?_) (fun c158 => ?_)
          · replace H := hF c158 H
            refine mm_goto 1504 dL_law_821 (by decide) ?_
            refine mm_iinc (v := (x4 + 6)) (ls' := [some (.ref 0), some (.ref 64), some (.ref 113), some (.ref 146), some (.int (x4 + 6)), some (.int q149.1), some (.int q153.1)]) dL_law_1504 rfl rfl rfl ?_
            refine mm_goto 23 dL_law_1507 (by decide) ?_
            refine mm_fgt (ls' := [some (.ref 0), some (.ref 64), some (.ref 113), some (.ref 146), some (.int (x4 + 6)), none, none]) ⟨rfl, rfl, rfl, rfl, rfl, trivial⟩ ?_
            exact ih _ _ _ _ R H
          · replace H := hT c158 H
            refine mm_aload_n dL_law_809 rfl ?_
            refine mm_iconst (v := 0) dL_law_810 (by decide +kernel) ?_
            obtain ⟨b159, H⟩ := hB H
            refine rD_lald lay_146 rfl dL_law_811 R b159 ?_
            refine mm_iload dL_law_812 rfl ?_
            refine mm_i2l dL_law_814 ?_
            refine mm_lcmp dL_law_815 ?_
            refine mm_if_eq 821 dL_law_816 (by decide) (fun c160 => ?_) (fun c160 => ?_)
            · replace H := hT c160 H
              refine mm_goto 1504 dL_law_821 (by decide) ?_
              refine mm_iinc (v := (x4 + 6)) (ls' := [some (.ref 0), some (.ref 64), some (.ref 113), some (.ref 146), some (.int (x4 + 6)), some (.int q149.1), some (.int q153.1)]) dL_law_1504 rfl rfl rfl ?_
              refine mm_goto 23 dL_law_1507 (by decide) ?_
              refine mm_fgt (ls' := [some (.ref 0), some (.ref 64), some (.ref 113), some (.ref 146), some (.int (x4 + 6)), none, none]) ⟨rfl, rfl, rfl, rfl, rfl, trivial⟩ ?_
              exact ih _ _ _ _ R H
            · replace H := hF c160 H
              refine mm_iconst (v := 0) dL_law_819 (by decide +kernel) ?_
              refine mm_iret rfl rfl dL_law_820 ?_
              exact KR _ _ (Option.some.inj H).symm R
        · replace H := hF c157 H
          refine mm_iconst (v := 0) dL_law_802 (by decide +kernel) ?_
          refine mm_iret rfl rfl dL_law_803 ?_
          exact KR _ _ (Option.some.inj H).symm R
      replace H := hF c146 H
      by_cases c161 : ((mm_sX g (x4).toNatClampNeg) &&& 31) = 12
      · replace H := hT c161 H
        refine mm_tabIn 824 dL_law_40 (by rw [c161]; decide) (by rw [c161]; decide) (by rw [c161]; rfl) (by decide) ?_
        refine mm_aload_n dL_law_824 rfl ?_
        refine mm_aload_n dL_law_825 rfl ?_
        refine mm_iload dL_law_826 rfl ?_
        refine mm_iconst (v := 1) dL_law_828 (by decide +kernel) ?_
        refine mm_iadd dL_law_829 ?_
        obtain ⟨b162, H⟩ := hB H
        refine mm_sld dL_law_830 (inb_vp b162) ?_
        refine mm_aload_n dL_law_831 rfl ?_
        refine mm_iload dL_law_832 rfl ?_
        refine mm_iconst (v := 2) dL_law_834 (by decide +kernel) ?_
        refine mm_iadd dL_law_835 ?_
        obtain ⟨b163, H⟩ := hB H
        refine mm_sld dL_law_836 (inb_vp b163) ?_
        refine mm_aload_n dL_law_837 rfl ?_
        obtain ⟨q164, H165, H⟩ := hC H
        refine mm_callSW (d' := d - 1) (as := [.ref 64, .int (mm_sX g ((x4 + 1)).toNatClampNeg), .int (mm_sX g ((x4 + 2)).toNatClampNeg), .ref 146]) (st := []) (dS hd) cm_L_name (mm_t5 19 rfl rfl) (mm_t5 20 rfl rfl) dL_law_838 rfl (Nat.le_of_ble_eq_true rfl) (Nat.le_of_ble_eq_true rfl) rfl rfl (t_L_name (dL hd (by decide)) R H165) (fun E h1 q => by cases q.1) (fun v h q => th_lI q (fun R => ?_))
        refine mm_istore (ls' := [some (.ref 0), some (.ref 64), some (.ref 113), some (.ref 146), some (.int x4), some (.int q164.1), none]) dL_law_841 (Nat.le_of_ble_eq_true rfl) rfl ?_
        refine mm_aload_n dL_law_843 rfl ?_
        refine mm_aload_n dL_law_844 rfl ?_
        refine mm_iload dL_law_845 rfl ?_
        refine mm_iconst (v := 1) dL_law_847 (by decide +kernel) ?_
        refine mm_iadd dL_law_848 ?_
        obtain ⟨b166, H⟩ := hB H
        refine mm_sld dL_law_849 (inb_vp b166) ?_
        refine mm_aload_n dL_law_850 rfl ?_
        refine mm_iload dL_law_851 rfl ?_
        refine mm_iconst (v := 2) dL_law_853 (by decide +kernel) ?_
        refine mm_iadd dL_law_854 ?_
        obtain ⟨b167, H⟩ := hB H
        refine mm_sld dL_law_855 (inb_vp b167) ?_
        obtain ⟨q168, H169, H⟩ := hC H
        refine mm_callV (d' := d - 1) (as := [.int (mm_sX g ((x4 + 1)).toNatClampNeg), .int (mm_sX g ((x4 + 2)).toNatClampNeg)]) (st := []) (dS hd) cm_X12_name_ (mm_t7 33 rfl rfl) (mm_t7 34 rfl rfl) (mm_t7 35 rfl rfl) (T := TX12) (N := 54) rfl dL_law_856 (R.oD (r := 113) rfl lay_113) rfl (Nat.le_of_ble_eq_true rfl) (Nat.le_of_ble_eq_true rfl) rfl rfl (t_X12_name_ (dL hd (by decide)) R H169) (fun o h q => th_dI q (fun R => ?_))
        refine mm_istore (ls' := [some (.ref 0), some (.ref 64), some (.ref 113), some (.ref 146), some (.int x4), some (.int q164.1), some (.int q168.1)]) dL_law_859 (Nat.le_of_ble_eq_true rfl) rfl ?_
        refine mm_aload_n dL_law_861 rfl ?_
        obtain ⟨q170, H171, H⟩ := hC H
        refine mm_callV (d' := d - 1) (as := []) (st := []) (dS hd) cm_X12_thrown (mm_t6 117 rfl rfl) (mm_t6 118 rfl rfl) (mm_t6 119 rfl rfl) (T := TX12) (N := 54) rfl dL_law_862 (R.oD (r := 113) rfl lay_113) rfl (Nat.le_of_ble_eq_true rfl) (Nat.le_of_ble_eq_true rfl) rfl rfl (t_X12_thrown (dL hd (by decide)) R H171) (fun o u q => mm_thenI q ?_)
        refine mm_iload dL_law_865 rfl ?_
        refine mm_icmp_eq 872 dL_law_867 (by decide) (fun c172 => ?_) (fun c172 => ?_)
        · replace H := hT c172 H
          refine mm_iload dL_law_872 rfl ?_
          refine mm_if_ne 889 dL_law_874 (by decide) (fun c173 => ?_) (fun c173 => ?_)
          · replace H := hF c173 H
            refine mm_goto 1504 dL_law_889 (by decide) ?_
            refine mm_iinc (v := (x4 + 6)) (ls' := [some (.ref 0), some (.ref 64), some (.ref 113), some (.ref 146), some (.int (x4 + 6)), some (.int q164.1), some (.int q168.1)]) dL_law_1504 rfl rfl rfl ?_
            refine mm_goto 23 dL_law_1507 (by decide) ?_
            refine mm_fgt (ls' := [some (.ref 0), some (.ref 64), some (.ref 113), some (.ref 146), some (.int (x4 + 6)), none, none]) ⟨rfl, rfl, rfl, rfl, rfl, trivial⟩ ?_
            exact ih _ _ _ _ R H
          · replace H := hT c173 H
            refine mm_aload_n dL_law_877 rfl ?_
            refine mm_iconst (v := 0) dL_law_878 (by decide +kernel) ?_
            obtain ⟨b174, H⟩ := hB H
            refine rD_lald lay_146 rfl dL_law_879 R b174 ?_
            refine mm_iload dL_law_880 rfl ?_
            refine mm_i2l dL_law_882 ?_
            refine mm_lcmp dL_law_883 ?_
            refine mm_if_eq 889 dL_law_884 (by decide) (fun c175 => ?_) (fun c175 => ?_)
            · replace H := hT c175 H
              refine mm_goto 1504 dL_law_889 (by decide) ?_
              refine mm_iinc (v := (x4 + 6)) (ls' := [some (.ref 0), some (.ref 64), some (.ref 113), some (.ref 146), some (.int (x4 + 6)), some (.int q164.1), some (.int q168.1)]) dL_law_1504 rfl rfl rfl ?_
              refine mm_goto 23 dL_law_1507 (by decide) ?_
              refine mm_fgt (ls' := [some (.ref 0), some (.ref 64), some (.ref 113), some (.ref 146), some (.int (x4 + 6)), none, none]) ⟨rfl, rfl, rfl, rfl, rfl, trivial⟩ ?_
              exact ih _ _ _ _ R H
            · replace H := hF c175 H
              refine mm_iconst (v := 0) dL_law_887 (by decide +kernel) ?_
              refine mm_iret rfl rfl dL_law_888 ?_
              exact KR _ _ (Option.some.inj H).symm R
        · replace H := hF c172 H
          refine mm_iconst (v := 0) dL_law_870 (by decide +kernel) ?_
          refine mm_iret rfl rfl dL_law_871 ?_
          exact KR _ _ (Option.some.inj H).symm R
      replace H := hF c161 H
      by_cases c176 : ((mm_sX g (x4).toNatClampNeg) &&& 31) = 13
      · replace H := hT c176 H
        refine mm_tabIn 892 dL_law_40 (by rw [c176]; decide) (by rw [c176]; decide) (by rw [c176]; rfl) (by decide) ?_
        refine mm_aload_n dL_law_892 rfl ?_
        refine mm_aload_n dL_law_893 rfl ?_
        refine mm_iload dL_law_894 rfl ?_
        refine mm_iconst (v := 1) dL_law_896 (by decide +kernel) ?_
        refine mm_iadd dL_law_897 ?_
        obtain ⟨b177, H⟩ := hB H
        refine mm_sld dL_law_898 (inb_vp b177) ?_
        refine mm_aload_n dL_law_899 rfl ?_
        refine mm_iload dL_law_900 rfl ?_
        refine mm_iconst (v := 2) dL_law_902 (by decide +kernel) ?_
        refine mm_iadd dL_law_903 ?_
        obtain ⟨b178, H⟩ := hB H
        refine mm_sld dL_law_904 (inb_vp b178) ?_
        refine mm_aload_n dL_law_905 rfl ?_
        refine mm_iload dL_law_906 rfl ?_
        refine mm_iconst (v := 3) dL_law_908 (by decide +kernel) ?_
        refine mm_iadd dL_law_909 ?_
        obtain ⟨b179, H⟩ := hB H
        refine mm_sld dL_law_910 (inb_vp b179) ?_
        refine mm_aload_n dL_law_911 rfl ?_
        obtain ⟨q180, H181, H⟩ := hC H
        refine mm_callSW (d' := d - 1) (as := [.ref 64, .int (mm_sX g ((x4 + 1)).toNatClampNeg), .int (mm_sX g ((x4 + 2)).toNatClampNeg), .int (mm_sX g ((x4 + 3)).toNatClampNeg), .ref 146]) (st := []) (dS hd) cm_L_order (mm_t5 35 rfl rfl) (mm_t5 36 rfl rfl) dL_law_912 rfl (Nat.le_of_ble_eq_true rfl) (Nat.le_of_ble_eq_true rfl) rfl rfl (t_L_order (dL hd (by decide)) R H181) (fun E h1 q => by cases q.1) (fun v h q => th_lI q (fun R => ?_))
        refine mm_istore (ls' := [some (.ref 0), some (.ref 64), some (.ref 113), some (.ref 146), some (.int x4), some (.int q180.1), none]) dL_law_915 (Nat.le_of_ble_eq_true rfl) rfl ?_
        refine mm_aload_n dL_law_917 rfl ?_
        refine mm_aload_n dL_law_918 rfl ?_
        refine mm_iload dL_law_919 rfl ?_
        refine mm_iconst (v := 1) dL_law_921 (by decide +kernel) ?_
        refine mm_iadd dL_law_922 ?_
        obtain ⟨b182, H⟩ := hB H
        refine mm_sld dL_law_923 (inb_vp b182) ?_
        refine mm_aload_n dL_law_924 rfl ?_
        refine mm_iload dL_law_925 rfl ?_
        refine mm_iconst (v := 2) dL_law_927 (by decide +kernel) ?_
        refine mm_iadd dL_law_928 ?_
        obtain ⟨b183, H⟩ := hB H
        refine mm_sld dL_law_929 (inb_vp b183) ?_
        refine mm_aload_n dL_law_930 rfl ?_
        refine mm_iload dL_law_931 rfl ?_
        refine mm_iconst (v := 3) dL_law_933 (by decide +kernel) ?_
        refine mm_iadd dL_law_934 ?_
        obtain ⟨b184, H⟩ := hB H
        refine mm_sld dL_law_935 (inb_vp b184) ?_
        obtain ⟨q185, H186, H⟩ := hC H
        refine mm_callV (d' := d - 1) (as := [.int (mm_sX g ((x4 + 1)).toNatClampNeg), .int (mm_sX g ((x4 + 2)).toNatClampNeg), .int (mm_sX g ((x4 + 3)).toNatClampNeg)]) (st := []) (dS hd) cm_X12_order (mm_t7 42 rfl rfl) (mm_t7 43 rfl rfl) (mm_t7 44 rfl rfl) (T := TX12) (N := 54) rfl dL_law_936 (R.oD (r := 113) rfl lay_113) rfl (Nat.le_of_ble_eq_true rfl) (Nat.le_of_ble_eq_true rfl) rfl rfl (t_X12_order (dL hd (by decide)) R H186) (fun o h q => th_dI q (fun R => ?_))
        refine mm_istore (ls' := [some (.ref 0), some (.ref 64), some (.ref 113), some (.ref 146), some (.int x4), some (.int q180.1), some (.int q185.1)]) dL_law_939 (Nat.le_of_ble_eq_true rfl) rfl ?_
        refine mm_aload_n dL_law_941 rfl ?_
        obtain ⟨q187, H188, H⟩ := hC H
        refine mm_callV (d' := d - 1) (as := []) (st := []) (dS hd) cm_X12_thrown (mm_t6 117 rfl rfl) (mm_t6 118 rfl rfl) (mm_t6 119 rfl rfl) (T := TX12) (N := 54) rfl dL_law_942 (R.oD (r := 113) rfl lay_113) rfl (Nat.le_of_ble_eq_true rfl) (Nat.le_of_ble_eq_true rfl) rfl rfl (t_X12_thrown (dL hd (by decide)) R H188) (fun o u q => mm_thenI q ?_)
        refine mm_iload dL_law_945 rfl ?_
        refine mm_icmp_eq 952 dL_law_947 (by decide) (fun c189 => ?_) (fun c189 => ?_)
        · replace H := hT c189 H
          refine mm_iload dL_law_952 rfl ?_
          refine mm_if_ne 969 dL_law_954 (by decide) (fun c190 => ?_) (fun c190 => ?_)
          · replace H := hF c190 H
            refine mm_goto 1504 dL_law_969 (by decide) ?_
            refine mm_iinc (v := (x4 + 6)) (ls' := [some (.ref 0), some (.ref 64), some (.ref 113), some (.ref 146), some (.int (x4 + 6)), some (.int q180.1), some (.int q185.1)]) dL_law_1504 rfl rfl rfl ?_
            refine mm_goto 23 dL_law_1507 (by decide) ?_
            refine mm_fgt (ls' := [some (.ref 0), some (.ref 64), some (.ref 113), some (.ref 146), some (.int (x4 + 6)), none, none]) ⟨rfl, rfl, rfl, rfl, rfl, trivial⟩ ?_
            exact ih _ _ _ _ R H
          · replace H := hT c190 H
            refine mm_aload_n dL_law_957 rfl ?_
            refine mm_iconst (v := 0) dL_law_958 (by decide +kernel) ?_
            obtain ⟨b191, H⟩ := hB H
            refine rD_lald lay_146 rfl dL_law_959 R b191 ?_
            refine mm_iload dL_law_960 rfl ?_
            refine mm_i2l dL_law_962 ?_
            refine mm_lcmp dL_law_963 ?_
            refine mm_if_eq 969 dL_law_964 (by decide) (fun c192 => ?_) (fun c192 => ?_)
            · replace H := hT c192 H
              refine mm_goto 1504 dL_law_969 (by decide) ?_
              refine mm_iinc (v := (x4 + 6)) (ls' := [some (.ref 0), some (.ref 64), some (.ref 113), some (.ref 146), some (.int (x4 + 6)), some (.int q180.1), some (.int q185.1)]) dL_law_1504 rfl rfl rfl ?_
              refine mm_goto 23 dL_law_1507 (by decide) ?_
              refine mm_fgt (ls' := [some (.ref 0), some (.ref 64), some (.ref 113), some (.ref 146), some (.int (x4 + 6)), none, none]) ⟨rfl, rfl, rfl, rfl, rfl, trivial⟩ ?_
              exact ih _ _ _ _ R H
            · replace H := hF c192 H
              refine mm_iconst (v := 0) dL_law_967 (by decide +kernel) ?_
              refine mm_iret rfl rfl dL_law_968 ?_
              exact KR _ _ (Option.some.inj H).symm R
        · replace H := hF c189 H
          refine mm_iconst (v := 0) dL_law_950 (by decide +kernel) ?_
          refine mm_iret rfl rfl dL_law_951 ?_
          exact KR _ _ (Option.some.inj H).symm R
      replace H := hF c176 H
      by_cases c193 : ((mm_sX g (x4).toNatClampNeg) &&& 31) = 14
      · replace H := hT c193 H
        refine mm_tabIn 972 dL_law_40 (by rw [c193]; decide) (by rw [c193]; decide) (by rw [c193]; rfl) (by decide) ?_
        refine mm_aload_n dL_law_972 rfl ?_
        refine mm_aload_n dL_law_973 rfl ?_
        refine mm_iload dL_law_974 rfl ?_
        refine mm_iconst (v := 1) dL_law_976 (by decide +kernel) ?_
        refine mm_iadd dL_law_977 ?_
        obtain ⟨b194, H⟩ := hB H
        refine mm_sld dL_law_978 (inb_vp b194) ?_
        refine mm_aload_n dL_law_979 rfl ?_
        obtain ⟨q195, H196, H⟩ := hC H
        refine mm_callSW (d' := d - 1) (as := [.ref 64, .int (mm_sX g ((x4 + 1)).toNatClampNeg), .ref 146]) (st := []) (dS hd) cm_L_lift (mm_t5 56 rfl rfl) (mm_t5 57 rfl rfl) dL_law_980 rfl (Nat.le_of_ble_eq_true rfl) (Nat.le_of_ble_eq_true rfl) rfl rfl (t_L_lift (dL hd (by decide)) R H196) (fun E h1 q => by cases q.1) (fun v h q => th_lI q (fun R => ?_))
        refine mm_istore (ls' := [some (.ref 0), some (.ref 64), some (.ref 113), some (.ref 146), some (.int x4), some (.int q195.1), none]) dL_law_983 (Nat.le_of_ble_eq_true rfl) rfl ?_
        refine mm_aload_n dL_law_985 rfl ?_
        refine mm_aload_n dL_law_986 rfl ?_
        refine mm_iload dL_law_987 rfl ?_
        refine mm_iconst (v := 1) dL_law_989 (by decide +kernel) ?_
        refine mm_iadd dL_law_990 ?_
        obtain ⟨b197, H⟩ := hB H
        refine mm_sld dL_law_991 (inb_vp b197) ?_
        obtain ⟨q198, H199, H⟩ := hC H
        refine mm_callV (d' := d - 1) (as := [.int (mm_sX g ((x4 + 1)).toNatClampNeg)]) (st := []) (dS hd) cm_X12_lift (mm_t7 46 rfl rfl) (mm_t7 47 rfl rfl) (mm_t7 48 rfl rfl) (T := TX12) (N := 54) rfl dL_law_992 (R.oD (r := 113) rfl lay_113) rfl (Nat.le_of_ble_eq_true rfl) (Nat.le_of_ble_eq_true rfl) rfl rfl (t_X12_lift (dL hd (by decide)) R H199) (fun o h q => th_dI q (fun R => ?_))
        refine mm_istore (ls' := [some (.ref 0), some (.ref 64), some (.ref 113), some (.ref 146), some (.int x4), some (.int q195.1), some (.int q198.1)]) dL_law_995 (Nat.le_of_ble_eq_true rfl) rfl ?_
        refine mm_aload_n dL_law_997 rfl ?_
        obtain ⟨q200, H201, H⟩ := hC H
        refine mm_callV (d' := d - 1) (as := []) (st := []) (dS hd) cm_X12_thrown (mm_t6 117 rfl rfl) (mm_t6 118 rfl rfl) (mm_t6 119 rfl rfl) (T := TX12) (N := 54) rfl dL_law_998 (R.oD (r := 113) rfl lay_113) rfl (Nat.le_of_ble_eq_true rfl) (Nat.le_of_ble_eq_true rfl) rfl rfl (t_X12_thrown (dL hd (by decide)) R H201) (fun o u q => mm_thenI q ?_)
        refine mm_iload dL_law_1001 rfl ?_
        refine mm_icmp_eq 1008 dL_law_1003 (by decide) (fun c202 => ?_) (fun c202 => ?_)
        · replace H := hT c202 H
          refine mm_iload dL_law_1008 rfl ?_
          refine mm_if_ne 1032 dL_law_1010 (by decide) (fun c203 => ?_) (fun c203 => ?_)
          · replace H := hF c203 H
            refine mm_goto 1504 dL_law_1032 (by decide) ?_
            refine mm_iinc (v := (x4 + 6)) (ls' := [some (.ref 0), some (.ref 64), some (.ref 113), some (.ref 146), some (.int (x4 + 6)), some (.int q195.1), some (.int q198.1)]) dL_law_1504 rfl rfl rfl ?_
            refine mm_goto 23 dL_law_1507 (by decide) ?_
            refine mm_fgt (ls' := [some (.ref 0), some (.ref 64), some (.ref 113), some (.ref 146), some (.int (x4 + 6)), none, none]) ⟨rfl, rfl, rfl, rfl, rfl, trivial⟩ ?_
            exact ih _ _ _ _ R H
          · replace H := hT c203 H
            refine mm_aload_n dL_law_1013 rfl ?_
            refine mm_iconst (v := 0) dL_law_1014 (by decide +kernel) ?_
            obtain ⟨b204, H⟩ := hB H
            refine rD_lald lay_146 rfl dL_law_1015 R b204 ?_
            refine mm_iload dL_law_1016 rfl ?_
            refine mm_if_eq 1025 dL_law_1018 (by decide) (fun c205 => ?_) (fun c205 => ?_)
            · replace H := hT c205 H
              refine mm_lconst (v := 0) dL_law_1025 (by decide +kernel) ?_
              refine mm_lcmp dL_law_1026 ?_
              refine mm_if_eq 1032 dL_law_1027 (by decide) (fun c206 => ?_) (fun c206 => ?_)
              · replace H := hT c206 H
                refine mm_goto 1504 dL_law_1032 (by decide) ?_
                refine mm_iinc (v := (x4 + 6)) (ls' := [some (.ref 0), some (.ref 64), some (.ref 113), some (.ref 146), some (.int (x4 + 6)), some (.int q195.1), some (.int q198.1)]) dL_law_1504 rfl rfl rfl ?_
                refine mm_goto 23 dL_law_1507 (by decide) ?_
                refine mm_fgt (ls' := [some (.ref 0), some (.ref 64), some (.ref 113), some (.ref 146), some (.int (x4 + 6)), none, none]) ⟨rfl, rfl, rfl, rfl, rfl, trivial⟩ ?_
                exact ih _ _ _ _ R H
              · replace H := hF c206 H
                refine mm_iconst (v := 0) dL_law_1030 (by decide +kernel) ?_
                refine mm_iret rfl rfl dL_law_1031 ?_
                exact KR _ _ (Option.some.inj H).symm R
            · replace H := hF c205 H
              refine mm_lconst (v := 1) dL_law_1021 (by decide +kernel) ?_
              refine mm_goto 1026 dL_law_1022 (by decide) ?_
              refine mm_lcmp dL_law_1026 ?_
              refine mm_if_eq 1032 dL_law_1027 (by decide) (fun c207 => ?_) (fun c207 => ?_)
              · replace H := hT c207 H
                refine mm_goto 1504 dL_law_1032 (by decide) ?_
                refine mm_iinc (v := (x4 + 6)) (ls' := [some (.ref 0), some (.ref 64), some (.ref 113), some (.ref 146), some (.int (x4 + 6)), some (.int q195.1), some (.int q198.1)]) dL_law_1504 rfl rfl rfl ?_
                refine mm_goto 23 dL_law_1507 (by decide) ?_
                refine mm_fgt (ls' := [some (.ref 0), some (.ref 64), some (.ref 113), some (.ref 146), some (.int (x4 + 6)), none, none]) ⟨rfl, rfl, rfl, rfl, rfl, trivial⟩ ?_
                exact ih _ _ _ _ R H
              · replace H := hF c207 H
                refine mm_iconst (v := 0) dL_law_1030 (by decide +kernel) ?_
                refine mm_iret rfl rfl dL_law_1031 ?_
                exact KR _ _ (Option.some.inj H).symm R
        · replace H := hF c202 H
          refine mm_iconst (v := 0) dL_law_1006 (by decide +kernel) ?_
          refine mm_iret rfl rfl dL_law_1007 ?_
          exact KR _ _ (Option.some.inj H).symm R
      replace H := hF c193 H
      by_cases c208 : ((mm_sX g (x4).toNatClampNeg) &&& 31) = 15
      · replace H := hT c208 H
        refine mm_tabIn 1035 dL_law_40 (by rw [c208]; decide) (by rw [c208]; decide) (by rw [c208]; rfl) (by decide) ?_
        refine mm_aload_n dL_law_1035 rfl ?_
        refine mm_aload_n dL_law_1036 rfl ?_
        refine mm_iload dL_law_1037 rfl ?_
        refine mm_iconst (v := 1) dL_law_1039 (by decide +kernel) ?_
        refine mm_iadd dL_law_1040 ?_
        obtain ⟨b209, H⟩ := hB H
        refine mm_sld dL_law_1041 (inb_vp b209) ?_
        refine mm_aload_n dL_law_1042 rfl ?_
        refine mm_iload dL_law_1043 rfl ?_
        refine mm_iconst (v := 2) dL_law_1045 (by decide +kernel) ?_
        refine mm_iadd dL_law_1046 ?_
        obtain ⟨b210, H⟩ := hB H
        refine mm_sld dL_law_1047 (inb_vp b210) ?_
        refine mm_aload_n dL_law_1048 rfl ?_
        refine mm_iload dL_law_1049 rfl ?_
        refine mm_iconst (v := 3) dL_law_1051 (by decide +kernel) ?_
        refine mm_iadd dL_law_1052 ?_
        obtain ⟨b211, H⟩ := hB H
        refine mm_sld dL_law_1053 (inb_vp b211) ?_
        refine mm_aload_n dL_law_1054 rfl ?_
        obtain ⟨q212, H213, H⟩ := hC H
        refine mm_callSW (d' := d - 1) (as := [.ref 64, .int (mm_sX g ((x4 + 1)).toNatClampNeg), .int (mm_sX g ((x4 + 2)).toNatClampNeg), .int (mm_sX g ((x4 + 3)).toNatClampNeg), .ref 146]) (st := []) (dS hd) cm_L_status (mm_t5 70 rfl rfl) (mm_t5 71 rfl rfl) dL_law_1055 rfl (Nat.le_of_ble_eq_true rfl) (Nat.le_of_ble_eq_true rfl) rfl rfl (t_L_status (dL hd (by decide)) R H213) (fun E h1 q => by cases q.1) (fun v h q => th_lI q (fun R => ?_))
        refine mm_istore (ls' := [some (.ref 0), some (.ref 64), some (.ref 113), some (.ref 146), some (.int x4), some (.int q212.1), none]) dL_law_1058 (Nat.le_of_ble_eq_true rfl) rfl ?_
        refine mm_aload_n dL_law_1060 rfl ?_
        refine mm_aload_n dL_law_1061 rfl ?_
        refine mm_iload dL_law_1062 rfl ?_
        refine mm_iconst (v := 1) dL_law_1064 (by decide +kernel) ?_
        refine mm_iadd dL_law_1065 ?_
        obtain ⟨b214, H⟩ := hB H
        refine mm_sld dL_law_1066 (inb_vp b214) ?_
        refine mm_aload_n dL_law_1067 rfl ?_
        refine mm_iload dL_law_1068 rfl ?_
        refine mm_iconst (v := 2) dL_law_1070 (by decide +kernel) ?_
        refine mm_iadd dL_law_1071 ?_
        obtain ⟨b215, H⟩ := hB H
        refine mm_sld dL_law_1072 (inb_vp b215) ?_
        refine mm_aload_n dL_law_1073 rfl ?_
        refine mm_iload dL_law_1074 rfl ?_
        refine mm_iconst (v := 3) dL_law_1076 (by decide +kernel) ?_
        refine mm_iadd dL_law_1077 ?_
        obtain ⟨b216, H⟩ := hB H
        refine mm_sld dL_law_1078 (inb_vp b216) ?_
        obtain ⟨q217, H218, H⟩ := hC H
        refine mm_callV (d' := d - 1) (as := [.int (mm_sX g ((x4 + 1)).toNatClampNeg), .int (mm_sX g ((x4 + 2)).toNatClampNeg), .int (mm_sX g ((x4 + 3)).toNatClampNeg)]) (st := []) (dS hd) cm_X12_status (mm_t7 50 rfl rfl) (mm_t7 51 rfl rfl) (mm_t7 52 rfl rfl) (T := TX12) (N := 54) rfl dL_law_1079 (R.oD (r := 113) rfl lay_113) rfl (Nat.le_of_ble_eq_true rfl) (Nat.le_of_ble_eq_true rfl) rfl rfl (t_X12_status (dL hd (by decide)) R H218) (fun o h q => th_dI q (fun R => ?_))
        refine mm_istore (ls' := [some (.ref 0), some (.ref 64), some (.ref 113), some (.ref 146), some (.int x4), some (.int q212.1), some (.int q217.1)]) dL_law_1082 (Nat.le_of_ble_eq_true rfl) rfl ?_
        refine mm_aload_n dL_law_1084 rfl ?_
        obtain ⟨q219, H220, H⟩ := hC H
        refine mm_callV (d' := d - 1) (as := []) (st := []) (dS hd) cm_X12_thrown (mm_t6 117 rfl rfl) (mm_t6 118 rfl rfl) (mm_t6 119 rfl rfl) (T := TX12) (N := 54) rfl dL_law_1085 (R.oD (r := 113) rfl lay_113) rfl (Nat.le_of_ble_eq_true rfl) (Nat.le_of_ble_eq_true rfl) rfl rfl (t_X12_thrown (dL hd (by decide)) R H220) (fun o u q => mm_thenI q ?_)
        refine mm_iload dL_law_1088 rfl ?_
        refine mm_icmp_eq 1095 dL_law_1090 (by decide) (fun c221 => ?_) (fun c221 => ?_)
        · replace H := hT c221 H
          refine mm_iload dL_law_1095 rfl ?_
          refine mm_if_ne 1112 dL_law_1097 (by decide) (fun c222 => ?_) (fun c222 => ?_)
          · replace H := hF c222 H
            refine mm_goto 1504 dL_law_1112 (by decide) ?_
            refine mm_iinc (v := (x4 + 6)) (ls' := [some (.ref 0), some (.ref 64), some (.ref 113), some (.ref 146), some (.int (x4 + 6)), some (.int q212.1), some (.int q217.1)]) dL_law_1504 rfl rfl rfl ?_
            refine mm_goto 23 dL_law_1507 (by decide) ?_
            refine mm_fgt (ls' := [some (.ref 0), some (.ref 64), some (.ref 113), some (.ref 146), some (.int (x4 + 6)), none, none]) ⟨rfl, rfl, rfl, rfl, rfl, trivial⟩ ?_
            exact ih _ _ _ _ R H
          · replace H := hT c222 H
            refine mm_aload_n dL_law_1100 rfl ?_
            refine mm_iconst (v := 0) dL_law_1101 (by decide +kernel) ?_
            obtain ⟨b223, H⟩ := hB H
            refine rD_lald lay_146 rfl dL_law_1102 R b223 ?_
            refine mm_iload dL_law_1103 rfl ?_
            refine mm_i2l dL_law_1105 ?_
            refine mm_lcmp dL_law_1106 ?_
            refine mm_if_eq 1112 dL_law_1107 (by decide) (fun c224 => ?_) (fun c224 => ?_)
            · replace H := hT c224 H
              refine mm_goto 1504 dL_law_1112 (by decide) ?_
              refine mm_iinc (v := (x4 + 6)) (ls' := [some (.ref 0), some (.ref 64), some (.ref 113), some (.ref 146), some (.int (x4 + 6)), some (.int q212.1), some (.int q217.1)]) dL_law_1504 rfl rfl rfl ?_
              refine mm_goto 23 dL_law_1507 (by decide) ?_
              refine mm_fgt (ls' := [some (.ref 0), some (.ref 64), some (.ref 113), some (.ref 146), some (.int (x4 + 6)), none, none]) ⟨rfl, rfl, rfl, rfl, rfl, trivial⟩ ?_
              exact ih _ _ _ _ R H
            · replace H := hF c224 H
              refine mm_iconst (v := 0) dL_law_1110 (by decide +kernel) ?_
              refine mm_iret rfl rfl dL_law_1111 ?_
              exact KR _ _ (Option.some.inj H).symm R
        · replace H := hF c221 H
          refine mm_iconst (v := 0) dL_law_1093 (by decide +kernel) ?_
          refine mm_iret rfl rfl dL_law_1094 ?_
          exact KR _ _ (Option.some.inj H).symm R
      replace H := hF c208 H
      by_cases c225 : ((mm_sX g (x4).toNatClampNeg) &&& 31) = 16
      · replace H := hT c225 H
        refine mm_tabIn 1115 dL_law_40 (by rw [c225]; decide) (by rw [c225]; decide) (by rw [c225]; rfl) (by decide) ?_
        refine mm_aload_n dL_law_1115 rfl ?_
        refine mm_aload_n dL_law_1116 rfl ?_
        refine mm_iload dL_law_1117 rfl ?_
        refine mm_iconst (v := 1) dL_law_1119 (by decide +kernel) ?_
        refine mm_iadd dL_law_1120 ?_
        obtain ⟨b226, H⟩ := hB H
        refine mm_sld dL_law_1121 (inb_vp b226) ?_
        refine mm_aload_n dL_law_1122 rfl ?_
        refine mm_iload dL_law_1123 rfl ?_
        refine mm_iconst (v := 2) dL_law_1125 (by decide +kernel) ?_
        refine mm_iadd dL_law_1126 ?_
        obtain ⟨b227, H⟩ := hB H
        refine mm_sld dL_law_1127 (inb_vp b227) ?_
        refine mm_aload_n dL_law_1128 rfl ?_
        refine mm_iload dL_law_1129 rfl ?_
        refine mm_iconst (v := 3) dL_law_1131 (by decide +kernel) ?_
        refine mm_iadd dL_law_1132 ?_
        obtain ⟨b228, H⟩ := hB H
        refine mm_sld dL_law_1133 (inb_vp b228) ?_
        refine mm_aload_n dL_law_1134 rfl ?_
        refine mm_iload dL_law_1135 rfl ?_
        refine mm_iconst (v := 4) dL_law_1137 (by decide +kernel) ?_
        refine mm_iadd dL_law_1138 ?_
        obtain ⟨b229, H⟩ := hB H
        refine mm_sld dL_law_1139 (inb_vp b229) ?_
        refine mm_aload_n dL_law_1140 rfl ?_
        obtain ⟨q230, H231, H⟩ := hC H
        refine mm_callSW (d' := d - 1) (as := [.ref 64, .int (mm_sX g ((x4 + 1)).toNatClampNeg), .int (mm_sX g ((x4 + 2)).toNatClampNeg), .int (mm_sX g ((x4 + 3)).toNatClampNeg), .int (mm_sX g ((x4 + 4)).toNatClampNeg), .ref 146]) (st := []) (dS hd) cm_L_read (mm_t5 82 rfl rfl) (mm_t5 83 rfl rfl) dL_law_1141 rfl (Nat.le_of_ble_eq_true rfl) (Nat.le_of_ble_eq_true rfl) rfl rfl (t_L_read (dL hd (by decide)) R H231) (fun E h1 q => by cases q.1) (fun v h q => th_lI q (fun R => ?_))
        refine mm_istore (ls' := [some (.ref 0), some (.ref 64), some (.ref 113), some (.ref 146), some (.int x4), some (.int q230.1), none]) dL_law_1144 (Nat.le_of_ble_eq_true rfl) rfl ?_
        refine mm_aload_n dL_law_1146 rfl ?_
        refine mm_aload_n dL_law_1147 rfl ?_
        refine mm_iload dL_law_1148 rfl ?_
        refine mm_iconst (v := 1) dL_law_1150 (by decide +kernel) ?_
        refine mm_iadd dL_law_1151 ?_
        obtain ⟨b232, H⟩ := hB H
        refine mm_sld dL_law_1152 (inb_vp b232) ?_
        refine mm_aload_n dL_law_1153 rfl ?_
        refine mm_iload dL_law_1154 rfl ?_
        refine mm_iconst (v := 2) dL_law_1156 (by decide +kernel) ?_
        refine mm_iadd dL_law_1157 ?_
        obtain ⟨b233, H⟩ := hB H
        refine mm_sld dL_law_1158 (inb_vp b233) ?_
        refine mm_aload_n dL_law_1159 rfl ?_
        refine mm_iload dL_law_1160 rfl ?_
        refine mm_iconst (v := 3) dL_law_1162 (by decide +kernel) ?_
        refine mm_iadd dL_law_1163 ?_
        obtain ⟨b234, H⟩ := hB H
        refine mm_sld dL_law_1164 (inb_vp b234) ?_
        refine mm_aload_n dL_law_1165 rfl ?_
        refine mm_iload dL_law_1166 rfl ?_
        refine mm_iconst (v := 4) dL_law_1168 (by decide +kernel) ?_
        refine mm_iadd dL_law_1169 ?_
        obtain ⟨b235, H⟩ := hB H
        refine mm_sld dL_law_1170 (inb_vp b235) ?_
        obtain ⟨q236, H237, H⟩ := hC H
        refine mm_callV (d' := d - 1) (as := [.int (mm_sX g ((x4 + 1)).toNatClampNeg), .int (mm_sX g ((x4 + 2)).toNatClampNeg), .int (mm_sX g ((x4 + 3)).toNatClampNeg), .int (mm_sX g ((x4 + 4)).toNatClampNeg)]) (st := []) (dS hd) cm_X12_read (mm_t7 59 rfl rfl) (mm_t7 60 rfl rfl) (mm_t7 61 rfl rfl) (T := TX12) (N := 54) rfl dL_law_1171 (R.oD (r := 113) rfl lay_113) rfl (Nat.le_of_ble_eq_true rfl) (Nat.le_of_ble_eq_true rfl) rfl rfl (t_X12_read (dL hd (by decide)) R H237) (fun o h q => th_dI q (fun R => ?_))
        refine mm_istore (ls' := [some (.ref 0), some (.ref 64), some (.ref 113), some (.ref 146), some (.int x4), some (.int q230.1), some (.int q236.1)]) dL_law_1174 (Nat.le_of_ble_eq_true rfl) rfl ?_
        refine mm_aload_n dL_law_1176 rfl ?_
        obtain ⟨q238, H239, H⟩ := hC H
        refine mm_callV (d' := d - 1) (as := []) (st := []) (dS hd) cm_X12_thrown (mm_t6 117 rfl rfl) (mm_t6 118 rfl rfl) (mm_t6 119 rfl rfl) (T := TX12) (N := 54) rfl dL_law_1177 (R.oD (r := 113) rfl lay_113) rfl (Nat.le_of_ble_eq_true rfl) (Nat.le_of_ble_eq_true rfl) rfl rfl (t_X12_thrown (dL hd (by decide)) R H239) (fun o u q => mm_thenI q ?_)
        refine mm_iload dL_law_1180 rfl ?_
        refine mm_icmp_eq 1187 dL_law_1182 (by decide) (fun c240 => ?_) (fun c240 => ?_)
        · replace H := hT c240 H
          refine mm_iload dL_law_1187 rfl ?_
          refine mm_if_ne 1204 dL_law_1189 (by decide) (fun c241 => ?_) (fun c241 => ?_)
          · replace H := hF c241 H
            refine mm_goto 1504 dL_law_1204 (by decide) ?_
            refine mm_iinc (v := (x4 + 6)) (ls' := [some (.ref 0), some (.ref 64), some (.ref 113), some (.ref 146), some (.int (x4 + 6)), some (.int q230.1), some (.int q236.1)]) dL_law_1504 rfl rfl rfl ?_
            refine mm_goto 23 dL_law_1507 (by decide) ?_
            refine mm_fgt (ls' := [some (.ref 0), some (.ref 64), some (.ref 113), some (.ref 146), some (.int (x4 + 6)), none, none]) ⟨rfl, rfl, rfl, rfl, rfl, trivial⟩ ?_
            exact ih _ _ _ _ R H
          · replace H := hT c241 H
            refine mm_aload_n dL_law_1192 rfl ?_
            refine mm_iconst (v := 0) dL_law_1193 (by decide +kernel) ?_
            obtain ⟨b242, H⟩ := hB H
            refine rD_lald lay_146 rfl dL_law_1194 R b242 ?_
            refine mm_iload dL_law_1195 rfl ?_
            refine mm_i2l dL_law_1197 ?_
            refine mm_lcmp dL_law_1198 ?_
            refine mm_if_eq 1204 dL_law_1199 (by decide) (fun c243 => ?_) (fun c243 => ?_)
            · replace H := hT c243 H
              refine mm_goto 1504 dL_law_1204 (by decide) ?_
              refine mm_iinc (v := (x4 + 6)) (ls' := [some (.ref 0), some (.ref 64), some (.ref 113), some (.ref 146), some (.int (x4 + 6)), some (.int q230.1), some (.int q236.1)]) dL_law_1504 rfl rfl rfl ?_
              refine mm_goto 23 dL_law_1507 (by decide) ?_
              refine mm_fgt (ls' := [some (.ref 0), some (.ref 64), some (.ref 113), some (.ref 146), some (.int (x4 + 6)), none, none]) ⟨rfl, rfl, rfl, rfl, rfl, trivial⟩ ?_
              exact ih _ _ _ _ R H
            · replace H := hF c243 H
              refine mm_iconst (v := 0) dL_law_1202 (by decide +kernel) ?_
              refine mm_iret rfl rfl dL_law_1203 ?_
              exact KR _ _ (Option.some.inj H).symm R
        · replace H := hF c240 H
          refine mm_iconst (v := 0) dL_law_1185 (by decide +kernel) ?_
          refine mm_iret rfl rfl dL_law_1186 ?_
          exact KR _ _ (Option.some.inj H).symm R
      replace H := hF c225 H
      by_cases c244 : ((mm_sX g (x4).toNatClampNeg) &&& 31) = 17
      · replace H := hT c244 H
        refine mm_tabIn 1207 dL_law_40 (by rw [c244]; decide) (by rw [c244]; decide) (by rw [c244]; rfl) (by decide) ?_
        refine mm_aload_n dL_law_1207 rfl ?_
        refine mm_aload_n dL_law_1208 rfl ?_
        refine mm_iload dL_law_1209 rfl ?_
        refine mm_iconst (v := 1) dL_law_1211 (by decide +kernel) ?_
        refine mm_iadd dL_law_1212 ?_
        obtain ⟨b245, H⟩ := hB H
        refine mm_sld dL_law_1213 (inb_vp b245) ?_
        refine mm_aload_n dL_law_1214 rfl ?_
        obtain ⟨q246, H247, H⟩ := hC H
        refine mm_callSW (d' := d - 1) (as := [.ref 64, .int (mm_sX g ((x4 + 1)).toNatClampNeg), .ref 146]) (st := []) (dS hd) cm_L_told (mm_t5 130 rfl rfl) (mm_t5 131 rfl rfl) dL_law_1215 rfl (Nat.le_of_ble_eq_true rfl) (Nat.le_of_ble_eq_true rfl) rfl rfl (t_L_told (dL hd (by decide)) R H247) (fun E h1 q => by cases q.1) (fun v h q => th_lI q (fun R => ?_))
        refine mm_istore (ls' := [some (.ref 0), some (.ref 64), some (.ref 113), some (.ref 146), some (.int x4), some (.int q246.1), none]) dL_law_1218 (Nat.le_of_ble_eq_true rfl) rfl ?_
        refine mm_aload_n dL_law_1220 rfl ?_
        refine mm_aload_n dL_law_1221 rfl ?_
        refine mm_iload dL_law_1222 rfl ?_
        refine mm_iconst (v := 1) dL_law_1224 (by decide +kernel) ?_
        refine mm_iadd dL_law_1225 ?_
        obtain ⟨b248, H⟩ := hB H
        refine mm_sld dL_law_1226 (inb_vp b248) ?_
        obtain ⟨q249, H250, H⟩ := hC H
        refine mm_callV (d' := d - 1) (as := [.int (mm_sX g ((x4 + 1)).toNatClampNeg)]) (st := []) (dS hd) cm_X12_told (mm_t7 71 rfl rfl) (mm_t7 72 rfl rfl) (mm_t7 73 rfl rfl) (T := TX12) (N := 54) rfl dL_law_1227 (R.oD (r := 113) rfl lay_113) rfl (Nat.le_of_ble_eq_true rfl) (Nat.le_of_ble_eq_true rfl) rfl rfl (t_X12_told (dL hd (by decide)) R H250) (fun o h q => th_dI q (fun R => ?_))
        refine mm_istore (ls' := [some (.ref 0), some (.ref 64), some (.ref 113), some (.ref 146), some (.int x4), some (.int q246.1), some (.int q249.1)]) dL_law_1230 (Nat.le_of_ble_eq_true rfl) rfl ?_
        refine mm_aload_n dL_law_1232 rfl ?_
        obtain ⟨q251, H252, H⟩ := hC H
        refine mm_callV (d' := d - 1) (as := []) (st := []) (dS hd) cm_X12_thrown (mm_t6 117 rfl rfl) (mm_t6 118 rfl rfl) (mm_t6 119 rfl rfl) (T := TX12) (N := 54) rfl dL_law_1233 (R.oD (r := 113) rfl lay_113) rfl (Nat.le_of_ble_eq_true rfl) (Nat.le_of_ble_eq_true rfl) rfl rfl (t_X12_thrown (dL hd (by decide)) R H252) (fun o u q => mm_thenI q ?_)
        refine mm_iload dL_law_1236 rfl ?_
        refine mm_icmp_eq 1243 dL_law_1238 (by decide) (fun c253 => ?_) (fun c253 => ?_)
        · replace H := hT c253 H
          refine mm_iload dL_law_1243 rfl ?_
          refine mm_if_ne 1260 dL_law_1245 (by decide) (fun c254 => ?_) (fun c254 => ?_)
          · replace H := hF c254 H
            refine mm_goto 1504 dL_law_1260 (by decide) ?_
            refine mm_iinc (v := (x4 + 6)) (ls' := [some (.ref 0), some (.ref 64), some (.ref 113), some (.ref 146), some (.int (x4 + 6)), some (.int q246.1), some (.int q249.1)]) dL_law_1504 rfl rfl rfl ?_
            refine mm_goto 23 dL_law_1507 (by decide) ?_
            refine mm_fgt (ls' := [some (.ref 0), some (.ref 64), some (.ref 113), some (.ref 146), some (.int (x4 + 6)), none, none]) ⟨rfl, rfl, rfl, rfl, rfl, trivial⟩ ?_
            exact ih _ _ _ _ R H
          · replace H := hT c254 H
            refine mm_aload_n dL_law_1248 rfl ?_
            refine mm_iconst (v := 0) dL_law_1249 (by decide +kernel) ?_
            obtain ⟨b255, H⟩ := hB H
            refine rD_lald lay_146 rfl dL_law_1250 R b255 ?_
            refine mm_iload dL_law_1251 rfl ?_
            refine mm_i2l dL_law_1253 ?_
            refine mm_lcmp dL_law_1254 ?_
            refine mm_if_eq 1260 dL_law_1255 (by decide) (fun c256 => ?_) (fun c256 => ?_)
            · replace H := hT c256 H
              refine mm_goto 1504 dL_law_1260 (by decide) ?_
              refine mm_iinc (v := (x4 + 6)) (ls' := [some (.ref 0), some (.ref 64), some (.ref 113), some (.ref 146), some (.int (x4 + 6)), some (.int q246.1), some (.int q249.1)]) dL_law_1504 rfl rfl rfl ?_
              refine mm_goto 23 dL_law_1507 (by decide) ?_
              refine mm_fgt (ls' := [some (.ref 0), some (.ref 64), some (.ref 113), some (.ref 146), some (.int (x4 + 6)), none, none]) ⟨rfl, rfl, rfl, rfl, rfl, trivial⟩ ?_
              exact ih _ _ _ _ R H
            · replace H := hF c256 H
              refine mm_iconst (v := 0) dL_law_1258 (by decide +kernel) ?_
              refine mm_iret rfl rfl dL_law_1259 ?_
              exact KR _ _ (Option.some.inj H).symm R
        · replace H := hF c253 H
          refine mm_iconst (v := 0) dL_law_1241 (by decide +kernel) ?_
          refine mm_iret rfl rfl dL_law_1242 ?_
          exact KR _ _ (Option.some.inj H).symm R
      replace H := hF c244 H
      by_cases c257 : ((mm_sX g (x4).toNatClampNeg) &&& 31) = 18
      · replace H := hT c257 H
        refine mm_tabIn 1263 dL_law_40 (by rw [c257]; decide) (by rw [c257]; decide) (by rw [c257]; rfl) (by decide) ?_
        refine mm_aload_n dL_law_1263 rfl ?_
        refine mm_aload_n dL_law_1264 rfl ?_
        refine mm_iload dL_law_1265 rfl ?_
        refine mm_iconst (v := 1) dL_law_1267 (by decide +kernel) ?_
        refine mm_iadd dL_law_1268 ?_
        obtain ⟨b258, H⟩ := hB H
        refine mm_sld dL_law_1269 (inb_vp b258) ?_
        refine mm_aload_n dL_law_1270 rfl ?_
        refine mm_iload dL_law_1271 rfl ?_
        refine mm_iconst (v := 2) dL_law_1273 (by decide +kernel) ?_
        refine mm_iadd dL_law_1274 ?_
        obtain ⟨b259, H⟩ := hB H
        refine mm_sld dL_law_1275 (inb_vp b259) ?_
        refine mm_aload_n dL_law_1276 rfl ?_
        refine mm_iload dL_law_1277 rfl ?_
        refine mm_iconst (v := 3) dL_law_1279 (by decide +kernel) ?_
        refine mm_iadd dL_law_1280 ?_
        obtain ⟨b260, H⟩ := hB H
        refine mm_sld dL_law_1281 (inb_vp b260) ?_
        obtain ⟨q261, H262, H⟩ := hC H
        refine mm_callV (d' := d - 1) (as := [.int (mm_sX g ((x4 + 1)).toNatClampNeg), .int (mm_sX g ((x4 + 2)).toNatClampNeg), .int (mm_sX g ((x4 + 3)).toNatClampNeg)]) (st := []) (dS hd) cm_X11_digest (mm_t3 32 rfl rfl) (mm_t3 33 rfl rfl) (mm_t3 34 rfl rfl) (T := TX11) (N := 14) rfl dL_law_1282 (R.oC (r := 64) rfl lay_64) rfl (Nat.le_of_ble_eq_true rfl) (Nat.le_of_ble_eq_true rfl) rfl rfl (t_X11_digest (dL hd (by decide)) R H262) (fun o h q => th_cI q (fun R => ?_))
        refine mm_aload_n dL_law_1285 rfl ?_
        refine mm_aload_n dL_law_1286 rfl ?_
        refine mm_iload dL_law_1287 rfl ?_
        refine mm_iconst (v := 1) dL_law_1289 (by decide +kernel) ?_
        refine mm_iadd dL_law_1290 ?_
        obtain ⟨b263, H⟩ := hB H
        refine mm_sld dL_law_1291 (inb_vp b263) ?_
        refine mm_aload_n dL_law_1292 rfl ?_
        refine mm_iload dL_law_1293 rfl ?_
        refine mm_iconst (v := 2) dL_law_1295 (by decide +kernel) ?_
        refine mm_iadd dL_law_1296 ?_
        obtain ⟨b264, H⟩ := hB H
        refine mm_sld dL_law_1297 (inb_vp b264) ?_
        refine mm_aload_n dL_law_1298 rfl ?_
        refine mm_iload dL_law_1299 rfl ?_
        refine mm_iconst (v := 3) dL_law_1301 (by decide +kernel) ?_
        refine mm_iadd dL_law_1302 ?_
        obtain ⟨b265, H⟩ := hB H
        refine mm_sld dL_law_1303 (inb_vp b265) ?_
        obtain ⟨q266, H267, H⟩ := hC H
        refine mm_callV (d' := d - 1) (as := [.int (mm_sX g ((x4 + 1)).toNatClampNeg), .int (mm_sX g ((x4 + 2)).toNatClampNeg), .int (mm_sX g ((x4 + 3)).toNatClampNeg)]) (st := [.int q261.1]) (dS hd) cm_X12_digest (mm_t7 80 rfl rfl) (mm_t7 81 rfl rfl) (mm_t7 82 rfl rfl) (T := TX12) (N := 54) rfl dL_law_1304 (R.oD (r := 113) rfl lay_113) rfl (Nat.le_of_ble_eq_true rfl) (Nat.le_of_ble_eq_true rfl) rfl rfl (t_X12_digest (dL hd (by decide)) R H267) (fun o h q => th_dI q (fun R => ?_))
        refine mm_icmp_eq 1504 dL_law_1307 (by decide) (fun c268 => ?_) (fun c268 => ?_)
        · replace H := hT c268 H
          refine mm_iinc (v := (x4 + 6)) (ls' := [some (.ref 0), some (.ref 64), some (.ref 113), some (.ref 146), some (.int (x4 + 6)), none, none]) dL_law_1504 rfl rfl rfl ?_
          refine mm_goto 23 dL_law_1507 (by decide) ?_
          exact ih _ _ _ _ R H
        · replace H := hF c268 H
          refine mm_iconst (v := 0) dL_law_1310 (by decide +kernel) ?_
          refine mm_iret rfl rfl dL_law_1311 ?_
          exact KR _ _ (Option.some.inj H).symm R
      replace H := hF c257 H
      by_cases c269 : ((mm_sX g (x4).toNatClampNeg) &&& 31) = 19
      · replace H := hT c269 H
        refine mm_tabIn 1312 dL_law_40 (by rw [c269]; decide) (by rw [c269]; decide) (by rw [c269]; rfl) (by decide) ?_
        refine mm_aload_n dL_law_1312 rfl ?_
        refine mm_aload_n dL_law_1313 rfl ?_
        refine mm_iload dL_law_1314 rfl ?_
        refine mm_iconst (v := 1) dL_law_1316 (by decide +kernel) ?_
        refine mm_iadd dL_law_1317 ?_
        obtain ⟨b270, H⟩ := hB H
        refine mm_sld dL_law_1318 (inb_vp b270) ?_
        refine mm_aload_n dL_law_1319 rfl ?_
        refine mm_iload dL_law_1320 rfl ?_
        refine mm_iconst (v := 2) dL_law_1322 (by decide +kernel) ?_
        refine mm_iadd dL_law_1323 ?_
        obtain ⟨b271, H⟩ := hB H
        refine mm_sld dL_law_1324 (inb_vp b271) ?_
        refine mm_aload_n dL_law_1325 rfl ?_
        obtain ⟨q272, H273, H⟩ := hC H
        refine mm_callSW (d' := d - 1) (as := [.ref 64, .int (mm_sX g ((x4 + 1)).toNatClampNeg), .int (mm_sX g ((x4 + 2)).toNatClampNeg), .ref 146]) (st := []) (dS hd) cm_L_cite (mm_t5 141 rfl rfl) (mm_t5 142 rfl rfl) dL_law_1326 rfl (Nat.le_of_ble_eq_true rfl) (Nat.le_of_ble_eq_true rfl) rfl rfl (t_L_cite (dL hd (by decide)) R H273) (fun E h1 q => by cases q.1) (fun v h q => th_lI q (fun R => ?_))
        refine mm_istore (ls' := [some (.ref 0), some (.ref 64), some (.ref 113), some (.ref 146), some (.int x4), some (.int q272.1), none]) dL_law_1329 (Nat.le_of_ble_eq_true rfl) rfl ?_
        refine mm_aload_n dL_law_1331 rfl ?_
        refine mm_aload_n dL_law_1332 rfl ?_
        refine mm_iload dL_law_1333 rfl ?_
        refine mm_iconst (v := 1) dL_law_1335 (by decide +kernel) ?_
        refine mm_iadd dL_law_1336 ?_
        obtain ⟨b274, H⟩ := hB H
        refine mm_sld dL_law_1337 (inb_vp b274) ?_
        refine mm_aload_n dL_law_1338 rfl ?_
        refine mm_iload dL_law_1339 rfl ?_
        refine mm_iconst (v := 2) dL_law_1341 (by decide +kernel) ?_
        refine mm_iadd dL_law_1342 ?_
        obtain ⟨b275, H⟩ := hB H
        refine mm_sld dL_law_1343 (inb_vp b275) ?_
        obtain ⟨q276, H277, H⟩ := hC H
        refine mm_callV (d' := d - 1) (as := [.int (mm_sX g ((x4 + 1)).toNatClampNeg), .int (mm_sX g ((x4 + 2)).toNatClampNeg)]) (st := []) (dS hd) cm_X12_cite (mm_t7 84 rfl rfl) (mm_t7 85 rfl rfl) (mm_t7 86 rfl rfl) (T := TX12) (N := 54) rfl dL_law_1344 (R.oD (r := 113) rfl lay_113) rfl (Nat.le_of_ble_eq_true rfl) (Nat.le_of_ble_eq_true rfl) rfl rfl (t_X12_cite (dL hd (by decide)) R H277) (fun o h q => th_dI q (fun R => ?_))
        refine mm_istore (ls' := [some (.ref 0), some (.ref 64), some (.ref 113), some (.ref 146), some (.int x4), some (.int q272.1), some (.int q276.1)]) dL_law_1347 (Nat.le_of_ble_eq_true rfl) rfl ?_
        refine mm_aload_n dL_law_1349 rfl ?_
        obtain ⟨q278, H279, H⟩ := hC H
        refine mm_callV (d' := d - 1) (as := []) (st := []) (dS hd) cm_X12_thrown (mm_t6 117 rfl rfl) (mm_t6 118 rfl rfl) (mm_t6 119 rfl rfl) (T := TX12) (N := 54) rfl dL_law_1350 (R.oD (r := 113) rfl lay_113) rfl (Nat.le_of_ble_eq_true rfl) (Nat.le_of_ble_eq_true rfl) rfl rfl (t_X12_thrown (dL hd (by decide)) R H279) (fun o u q => mm_thenI q ?_)
        refine mm_iload dL_law_1353 rfl ?_
        refine mm_icmp_eq 1360 dL_law_1355 (by decide) (fun c280 => ?_) (fun c280 => ?_)
        · replace H := hT c280 H
          refine mm_iload dL_law_1360 rfl ?_
          refine mm_if_ne 1377 dL_law_1362 (by decide) (fun c281 => ?_) (fun c281 => ?_)
          · replace H := hF c281 H
            refine mm_goto 1504 dL_law_1377 (by decide) ?_
            refine mm_iinc (v := (x4 + 6)) (ls' := [some (.ref 0), some (.ref 64), some (.ref 113), some (.ref 146), some (.int (x4 + 6)), some (.int q272.1), some (.int q276.1)]) dL_law_1504 rfl rfl rfl ?_
            refine mm_goto 23 dL_law_1507 (by decide) ?_
            refine mm_fgt (ls' := [some (.ref 0), some (.ref 64), some (.ref 113), some (.ref 146), some (.int (x4 + 6)), none, none]) ⟨rfl, rfl, rfl, rfl, rfl, trivial⟩ ?_
            exact ih _ _ _ _ R H
          · replace H := hT c281 H
            refine mm_aload_n dL_law_1365 rfl ?_
            refine mm_iconst (v := 0) dL_law_1366 (by decide +kernel) ?_
            obtain ⟨b282, H⟩ := hB H
            refine rD_lald lay_146 rfl dL_law_1367 R b282 ?_
            refine mm_iload dL_law_1368 rfl ?_
            refine mm_i2l dL_law_1370 ?_
            refine mm_lcmp dL_law_1371 ?_
            refine mm_if_eq 1377 dL_law_1372 (by decide) (fun c283 => ?_) (fun c283 => ?_)
            · replace H := hT c283 H
              refine mm_goto 1504 dL_law_1377 (by decide) ?_
              refine mm_iinc (v := (x4 + 6)) (ls' := [some (.ref 0), some (.ref 64), some (.ref 113), some (.ref 146), some (.int (x4 + 6)), some (.int q272.1), some (.int q276.1)]) dL_law_1504 rfl rfl rfl ?_
              refine mm_goto 23 dL_law_1507 (by decide) ?_
              refine mm_fgt (ls' := [some (.ref 0), some (.ref 64), some (.ref 113), some (.ref 146), some (.int (x4 + 6)), none, none]) ⟨rfl, rfl, rfl, rfl, rfl, trivial⟩ ?_
              exact ih _ _ _ _ R H
            · replace H := hF c283 H
              refine mm_iconst (v := 0) dL_law_1375 (by decide +kernel) ?_
              refine mm_iret rfl rfl dL_law_1376 ?_
              exact KR _ _ (Option.some.inj H).symm R
        · replace H := hF c280 H
          refine mm_iconst (v := 0) dL_law_1358 (by decide +kernel) ?_
          refine mm_iret rfl rfl dL_law_1359 ?_
          exact KR _ _ (Option.some.inj H).symm R
      replace H := hF c269 H
      by_cases c284 : ((mm_sX g (x4).toNatClampNeg) &&& 31) = 20
      · replace H := hT c284 H
        refine mm_tabIn 1380 dL_law_40 (by rw [c284]; decide) (by rw [c284]; decide) (by rw [c284]; rfl) (by decide) ?_
        refine mm_aload_n dL_law_1380 rfl ?_
        refine mm_aload_n dL_law_1381 rfl ?_
        refine mm_iload dL_law_1382 rfl ?_
        refine mm_iconst (v := 1) dL_law_1384 (by decide +kernel) ?_
        refine mm_iadd dL_law_1385 ?_
        obtain ⟨b285, H⟩ := hB H
        refine mm_sld dL_law_1386 (inb_vp b285) ?_
        refine mm_aload_n dL_law_1387 rfl ?_
        refine mm_iload dL_law_1388 rfl ?_
        refine mm_iconst (v := 2) dL_law_1390 (by decide +kernel) ?_
        refine mm_iadd dL_law_1391 ?_
        obtain ⟨b286, H⟩ := hB H
        refine mm_sld dL_law_1392 (inb_vp b286) ?_
        refine mm_aload_n dL_law_1393 rfl ?_
        obtain ⟨q287, H288, H⟩ := hC H
        refine mm_callSW (d' := d - 1) (as := [.ref 64, .int (mm_sX g ((x4 + 1)).toNatClampNeg), .int (mm_sX g ((x4 + 2)).toNatClampNeg), .ref 146]) (st := []) (dS hd) cm_L_shown (mm_t5 159 rfl rfl) (mm_t5 160 rfl rfl) dL_law_1394 rfl (Nat.le_of_ble_eq_true rfl) (Nat.le_of_ble_eq_true rfl) rfl rfl (t_L_shown (dL hd (by decide)) R H288) (fun E h1 q => by cases q.1) (fun v h q => th_lI q (fun R => ?_))
        refine mm_istore (ls' := [some (.ref 0), some (.ref 64), some (.ref 113), some (.ref 146), some (.int x4), some (.int q287.1), none]) dL_law_1397 (Nat.le_of_ble_eq_true rfl) rfl ?_
        refine mm_aload_n dL_law_1399 rfl ?_
        refine mm_aload_n dL_law_1400 rfl ?_
        refine mm_iload dL_law_1401 rfl ?_
        refine mm_iconst (v := 1) dL_law_1403 (by decide +kernel) ?_
        refine mm_iadd dL_law_1404 ?_
        obtain ⟨b289, H⟩ := hB H
        refine mm_sld dL_law_1405 (inb_vp b289) ?_
        refine mm_aload_n dL_law_1406 rfl ?_
        refine mm_iload dL_law_1407 rfl ?_
        refine mm_iconst (v := 2) dL_law_1409 (by decide +kernel) ?_
        refine mm_iadd dL_law_1410 ?_
        obtain ⟨b290, H⟩ := hB H
        refine mm_sld dL_law_1411 (inb_vp b290) ?_
        obtain ⟨q291, H292, H⟩ := hC H
        refine mm_callV (d' := d - 1) (as := [.int (mm_sX g ((x4 + 1)).toNatClampNeg), .int (mm_sX g ((x4 + 2)).toNatClampNeg)]) (st := []) (dS hd) cm_X12_shown (mm_t7 88 rfl rfl) (mm_t7 89 rfl rfl) (mm_t7 90 rfl rfl) (T := TX12) (N := 54) rfl dL_law_1412 (R.oD (r := 113) rfl lay_113) rfl (Nat.le_of_ble_eq_true rfl) (Nat.le_of_ble_eq_true rfl) rfl rfl (t_X12_shown (dL hd (by decide)) R H292) (fun o h q => th_dI q (fun R => ?_))
        refine mm_istore (ls' := [some (.ref 0), some (.ref 64), some (.ref 113), some (.ref 146), some (.int x4), some (.int q287.1), some (.int q291.1)]) dL_law_1415 (Nat.le_of_ble_eq_true rfl) rfl ?_
        refine mm_aload_n dL_law_1417 rfl ?_
        obtain ⟨q293, H294, H⟩ := hC H
        refine mm_callV (d' := d - 1) (as := []) (st := []) (dS hd) cm_X12_thrown (mm_t6 117 rfl rfl) (mm_t6 118 rfl rfl) (mm_t6 119 rfl rfl) (T := TX12) (N := 54) rfl dL_law_1418 (R.oD (r := 113) rfl lay_113) rfl (Nat.le_of_ble_eq_true rfl) (Nat.le_of_ble_eq_true rfl) rfl rfl (t_X12_thrown (dL hd (by decide)) R H294) (fun o u q => mm_thenI q ?_)
        refine mm_iload dL_law_1421 rfl ?_
        refine mm_icmp_eq 1428 dL_law_1423 (by decide) (fun c295 => ?_) (fun c295 => ?_)
        · replace H := hT c295 H
          refine mm_iload dL_law_1428 rfl ?_
          refine mm_if_ne 1445 dL_law_1430 (by decide) (fun c296 => ?_) (fun c296 => ?_)
          · replace H := hF c296 H
            refine mm_goto 1504 dL_law_1445 (by decide) ?_
            refine mm_iinc (v := (x4 + 6)) (ls' := [some (.ref 0), some (.ref 64), some (.ref 113), some (.ref 146), some (.int (x4 + 6)), some (.int q287.1), some (.int q291.1)]) dL_law_1504 rfl rfl rfl ?_
            refine mm_goto 23 dL_law_1507 (by decide) ?_
            refine mm_fgt (ls' := [some (.ref 0), some (.ref 64), some (.ref 113), some (.ref 146), some (.int (x4 + 6)), none, none]) ⟨rfl, rfl, rfl, rfl, rfl, trivial⟩ ?_
            exact ih _ _ _ _ R H
          · replace H := hT c296 H
            refine mm_aload_n dL_law_1433 rfl ?_
            refine mm_iconst (v := 0) dL_law_1434 (by decide +kernel) ?_
            obtain ⟨b297, H⟩ := hB H
            refine rD_lald lay_146 rfl dL_law_1435 R b297 ?_
            refine mm_iload dL_law_1436 rfl ?_
            refine mm_i2l dL_law_1438 ?_
            refine mm_lcmp dL_law_1439 ?_
            refine mm_if_eq 1445 dL_law_1440 (by decide) (fun c298 => ?_) (fun c298 => ?_)
            · replace H := hT c298 H
              refine mm_goto 1504 dL_law_1445 (by decide) ?_
              refine mm_iinc (v := (x4 + 6)) (ls' := [some (.ref 0), some (.ref 64), some (.ref 113), some (.ref 146), some (.int (x4 + 6)), some (.int q287.1), some (.int q291.1)]) dL_law_1504 rfl rfl rfl ?_
              refine mm_goto 23 dL_law_1507 (by decide) ?_
              refine mm_fgt (ls' := [some (.ref 0), some (.ref 64), some (.ref 113), some (.ref 146), some (.int (x4 + 6)), none, none]) ⟨rfl, rfl, rfl, rfl, rfl, trivial⟩ ?_
              exact ih _ _ _ _ R H
            · replace H := hF c298 H
              refine mm_iconst (v := 0) dL_law_1443 (by decide +kernel) ?_
              refine mm_iret rfl rfl dL_law_1444 ?_
              exact KR _ _ (Option.some.inj H).symm R
        · replace H := hF c295 H
          refine mm_iconst (v := 0) dL_law_1426 (by decide +kernel) ?_
          refine mm_iret rfl rfl dL_law_1427 ?_
          exact KR _ _ (Option.some.inj H).symm R
      replace H := hF c284 H
      by_cases c299 : ((mm_sX g (x4).toNatClampNeg) &&& 31) = 21
      · replace H := hT c299 H
        refine mm_tabIn 1448 dL_law_40 (by rw [c299]; decide) (by rw [c299]; decide) (by rw [c299]; rfl) (by decide) ?_
        refine mm_aload_n dL_law_1448 rfl ?_
        refine mm_aload_n dL_law_1449 rfl ?_
        refine mm_iload dL_law_1450 rfl ?_
        refine mm_iconst (v := 1) dL_law_1452 (by decide +kernel) ?_
        refine mm_iadd dL_law_1453 ?_
        obtain ⟨b300, H⟩ := hB H
        refine mm_sld dL_law_1454 (inb_vp b300) ?_
        refine mm_aload_n dL_law_1455 rfl ?_
        obtain ⟨q301, H302, H⟩ := hC H
        refine mm_callSW (d' := d - 1) (as := [.ref 64, .int (mm_sX g ((x4 + 1)).toNatClampNeg), .ref 146]) (st := []) (dS hd) cm_L_count (mm_t5 181 rfl rfl) (mm_t5 182 rfl rfl) dL_law_1456 rfl (Nat.le_of_ble_eq_true rfl) (Nat.le_of_ble_eq_true rfl) rfl rfl (t_L_count (dL hd (by decide)) R H302) (fun E h1 q => by cases q.1) (fun v h q => th_lI q (fun R => ?_))
        refine mm_istore (ls' := [some (.ref 0), some (.ref 64), some (.ref 113), some (.ref 146), some (.int x4), some (.int q301.1), none]) dL_law_1459 (Nat.le_of_ble_eq_true rfl) rfl ?_
        refine mm_aload_n dL_law_1461 rfl ?_
        refine mm_aload_n dL_law_1462 rfl ?_
        refine mm_iload dL_law_1463 rfl ?_
        refine mm_iconst (v := 1) dL_law_1465 (by decide +kernel) ?_
        refine mm_iadd dL_law_1466 ?_
        obtain ⟨b303, H⟩ := hB H
        refine mm_sld dL_law_1467 (inb_vp b303) ?_
        obtain ⟨q304, H305, H⟩ := hC H
        refine mm_callV (d' := d - 1) (as := [.int (mm_sX g ((x4 + 1)).toNatClampNeg)]) (st := []) (dS hd) cm_X12_count (mm_t7 92 rfl rfl) (mm_t7 93 rfl rfl) (mm_t7 94 rfl rfl) (T := TX12) (N := 54) rfl dL_law_1468 (R.oD (r := 113) rfl lay_113) rfl (Nat.le_of_ble_eq_true rfl) (Nat.le_of_ble_eq_true rfl) rfl rfl (t_X12_count (dL hd (by decide)) R H305) (fun o h q => th_dI q (fun R => ?_))
        refine mm_istore (ls' := [some (.ref 0), some (.ref 64), some (.ref 113), some (.ref 146), some (.int x4), some (.int q301.1), some (.int q304.1)]) dL_law_1471 (Nat.le_of_ble_eq_true rfl) rfl ?_
        refine mm_aload_n dL_law_1473 rfl ?_
        obtain ⟨q306, H307, H⟩ := hC H
        refine mm_callV (d' := d - 1) (as := []) (st := []) (dS hd) cm_X12_thrown (mm_t6 117 rfl rfl) (mm_t6 118 rfl rfl) (mm_t6 119 rfl rfl) (T := TX12) (N := 54) rfl dL_law_1474 (R.oD (r := 113) rfl lay_113) rfl (Nat.le_of_ble_eq_true rfl) (Nat.le_of_ble_eq_true rfl) rfl rfl (t_X12_thrown (dL hd (by decide)) R H307) (fun o u q => mm_thenI q ?_)
        refine mm_iload dL_law_1477 rfl ?_
        refine mm_icmp_eq 1484 dL_law_1479 (by decide) (fun c308 => ?_) (fun c308 => ?_)
        · replace H := hT c308 H
          refine mm_iload dL_law_1484 rfl ?_
          refine mm_if_ne 1501 dL_law_1486 (by decide) (fun c309 => ?_) (fun c309 => ?_)
          · replace H := hF c309 H
            refine mm_goto 1504 dL_law_1501 (by decide) ?_
            refine mm_iinc (v := (x4 + 6)) (ls' := [some (.ref 0), some (.ref 64), some (.ref 113), some (.ref 146), some (.int (x4 + 6)), some (.int q301.1), some (.int q304.1)]) dL_law_1504 rfl rfl rfl ?_
            refine mm_goto 23 dL_law_1507 (by decide) ?_
            refine mm_fgt (ls' := [some (.ref 0), some (.ref 64), some (.ref 113), some (.ref 146), some (.int (x4 + 6)), none, none]) ⟨rfl, rfl, rfl, rfl, rfl, trivial⟩ ?_
            exact ih _ _ _ _ R H
          · replace H := hT c309 H
            refine mm_aload_n dL_law_1489 rfl ?_
            refine mm_iconst (v := 0) dL_law_1490 (by decide +kernel) ?_
            obtain ⟨b310, H⟩ := hB H
            refine rD_lald lay_146 rfl dL_law_1491 R b310 ?_
            refine mm_iload dL_law_1492 rfl ?_
            refine mm_i2l dL_law_1494 ?_
            refine mm_lcmp dL_law_1495 ?_
            refine mm_if_eq 1501 dL_law_1496 (by decide) (fun c311 => ?_) (fun c311 => ?_)
            · replace H := hT c311 H
              refine mm_goto 1504 dL_law_1501 (by decide) ?_
              refine mm_iinc (v := (x4 + 6)) (ls' := [some (.ref 0), some (.ref 64), some (.ref 113), some (.ref 146), some (.int (x4 + 6)), some (.int q301.1), some (.int q304.1)]) dL_law_1504 rfl rfl rfl ?_
              refine mm_goto 23 dL_law_1507 (by decide) ?_
              refine mm_fgt (ls' := [some (.ref 0), some (.ref 64), some (.ref 113), some (.ref 146), some (.int (x4 + 6)), none, none]) ⟨rfl, rfl, rfl, rfl, rfl, trivial⟩ ?_
              exact ih _ _ _ _ R H
            · replace H := hF c311 H
              refine mm_iconst (v := 0) dL_law_1499 (by decide +kernel) ?_
              refine mm_iret rfl rfl dL_law_1500 ?_
              exact KR _ _ (Option.some.inj H).symm R
        · replace H := hF c308 H
          refine mm_iconst (v := 0) dL_law_1482 (by decide +kernel) ?_
          refine mm_iret rfl rfl dL_law_1483 ?_
          exact KR _ _ (Option.some.inj H).symm R
      replace H := hF c299 H
      refine mm_tabOut 1504 dL_law_40 (sw_out 22 (by decide) (by rw [show (List.range 22).map nI = [0, 1, 2, 3, 4, 5, 6, 7, 8, 9, 10, 11, 12, 13, 14, 15, 16, 17, 18, 19, 20, 21] from rfl]; simp only [List.forall_mem_cons]; exact ⟨c3, c19, c32, c38, c53, c66, c81, c91, c106, c121, c129, c146, c161, c176, c193, c208, c225, c244, c257, c269, c284, c299, fun _ z => absurd z List.not_mem_nil⟩)) (by decide) ?_
      refine mm_iinc (v := (x4 + 6)) (ls' := [some (.ref 0), some (.ref 64), some (.ref 113), some (.ref 146), some (.int (x4 + 6)), none, none]) dL_law_1504 rfl rfl rfl ?_
      refine mm_goto 23 dL_law_1507 (by decide) ?_
      exact ih _ _ _ _ R H
def f_L_law (g : mm_G) (N : Nat) (C D : CS) : Option (Int32 × CS × CS) :=
  bns (f_L_law_L23 g N N 0 C D) (fun q312 => some q312) fun q312 =>
    some (1, q312.1, q312.2)
theorem t_L_law {g : mm_G} {d : Nat} {h : mm_Hp} {C D : CS} {N : Nat} {r : (Int32 × CS × CS)} (hd : 10 ≤ d) (R : Rep h C D) (H : f_L_law g N C D = some r) : mm_P g d ML_law 20 [some (.ref 0), some (.ref 64), some (.ref 113), some (.ref 146), none, none, none] [] h (lI r) := by
  unfold f_L_law at H
  refine mm_iconst (v := 0) dL_law_20 (by decide +kernel) ?_
  refine mm_istore (ls' := [some (.ref 0), some (.ref 64), some (.ref 113), some (.ref 146), some (.int 0), none, none]) dL_law_21 (Nat.le_of_ble_eq_true rfl) rfl ?_
  rcases hS H with ⟨q312, H313, H⟩ | ⟨q312, H313, H⟩
  · refine t_L_law_L23 hd (fun q h e R => ?_) (fun q h e R => by cases e) N _ _ _ _ R H313
    cases e
    exact en_lI H R
  · refine t_L_law_L23 hd (fun q h e R => by cases e) (fun q h e R => ?_) N _ _ _ _ R H313
    cases e
    refine mm_iconst (v := 1) dL_law_1510 (by decide +kernel) ?_
    refine mm_iret rfl rfl dL_law_1511 ?_
    exact en_lI H R
