set_option maxRecDepth 40000 in
theorem gl_X0 : GoodIn lw_tbl wsX00 := goodIn_r _ [381, 383, 385, 387, 389, 391, 393, 395, 397, 399, 401, 403, 405, 407, 409, 411] rfl (by decide +kernel)
theorem il_X0 : ∀ w ∈ wsX00, w ∈ lw_tbl := fun w h => (gl_X0 w h).1
set_option maxRecDepth 40000 in
theorem gl_X1 : GoodIn lw_tbl wsX10 := goodIn_r _ [576, 578, 580, 582, 584, 586, 588, 590, 592, 594, 596, 598, 600, 602] rfl (by decide +kernel)
theorem il_X1 : ∀ w ∈ wsX10, w ∈ lw_tbl := fun w h => (gl_X1 w h).1
set_option maxRecDepth 40000 in
theorem gl_X2 : GoodIn lw_tbl wsX20 := goodIn_r _ [691, 693, 695, 697, 699, 701, 703, 705, 707, 709, 711, 713, 715] rfl (by decide +kernel)
theorem il_X2 : ∀ w ∈ wsX20, w ∈ lw_tbl := fun w h => (gl_X2 w h).1
set_option maxRecDepth 40000 in
theorem gl_X3 : GoodIn lw_tbl wsX30 := goodIn_r _ [306, 308, 310, 312, 314, 316, 318, 320] rfl (by decide +kernel)
theorem il_X3 : ∀ w ∈ wsX30, w ∈ lw_tbl := fun w h => (gl_X3 w h).1
set_option maxRecDepth 40000 in
theorem gl_X4 : GoodIn lw_tbl wsX40 := goodIn_r _ [647, 649, 651, 653, 655] rfl (by decide +kernel)
theorem il_X4 : ∀ w ∈ wsX40, w ∈ lw_tbl := fun w h => (gl_X4 w h).1
set_option maxRecDepth 40000 in
theorem gl_X5 : GoodIn lw_tbl wsX50 := goodIn_r _ [752, 754, 756, 758, 760, 762, 764, 766, 768, 770, 772, 774, 776, 778, 780, 782, 784, 786, 788, 790] rfl (by decide +kernel)
theorem il_X5 : ∀ w ∈ wsX50, w ∈ lw_tbl := fun w h => (gl_X5 w h).1
set_option maxRecDepth 40000 in
theorem gl_X6 : GoodIn lw_tbl wsX60 := goodIn_r _ [804, 806, 808, 810, 812] rfl (by decide +kernel)
theorem il_X6 : ∀ w ∈ wsX60, w ∈ lw_tbl := fun w h => (gl_X6 w h).1
set_option maxRecDepth 40000 in
theorem gl_X7 : GoodIn lw_tbl wsX70 := goodIn_r _ [521, 523, 525, 527, 529, 531] rfl (by decide +kernel)
theorem il_X7 : ∀ w ∈ wsX70, w ∈ lw_tbl := fun w h => (gl_X7 w h).1
set_option maxRecDepth 40000 in
theorem gl_X8 : GoodIn lw_tbl wsX80 := goodIn_r _ [457, 459, 461, 463, 465, 467, 469, 471, 473, 475, 477, 479, 481, 483, 485, 487, 489, 491] rfl (by decide +kernel)
theorem il_X8 : ∀ w ∈ wsX80, w ∈ lw_tbl := fun w h => (gl_X8 w h).1
set_option maxRecDepth 40000 in
theorem gl_X9 : GoodIn lw_tbl wsX90 := goodIn_r _ [256, 258, 260] rfl (by decide +kernel)
theorem il_X9 : ∀ w ∈ wsX90, w ∈ lw_tbl := fun w h => (gl_X9 w h).1
set_option maxRecDepth 40000 in
theorem gl_X10 : GoodIn lw_tbl wsX100 := goodIn_r _ [620, 622, 624, 626, 628, 630] rfl (by decide +kernel)
theorem il_X10 : ∀ w ∈ wsX100, w ∈ lw_tbl := fun w h => (gl_X10 w h).1
set_option maxRecDepth 40000 in
theorem gl_X11 : GoodIn lw_tbl wsX110 := goodIn_r _ [828, 830, 832, 834, 836, 838, 840, 842, 844, 846, 848, 850, 852] rfl (by decide +kernel)
theorem il_X11 : ∀ w ∈ wsX110, w ∈ lw_tbl := fun w h => (gl_X11 w h).1
set_option maxRecDepth 40000 in
theorem gl_X12 : GoodIn lw_tbl wsX120 := goodIn_r _ [1777, 1779, 1781, 1783, 1785, 1787, 1789, 1791, 1793, 1795, 1797, 1799, 1801, 1803, 1805, 1807, 1809, 1811, 1813, 1815, 1817, 1819, 1821, 1823, 1825, 1827, 1829, 1831, 1833, 1835, 1837, 1839, 1841, 1843, 1845, 1847, 1849, 1851, 1853, 1855, 1857, 1859, 1861, 1863, 1865, 1867, 1869, 1871, 1873, 1875, 1877, 1879, 1881, 1883, 1885, 1887, 1889, 1891, 1893, 1895, 1897, 1899, 1901, 1903, 1905, 1907, 1909, 1911, 1913, 1915, 1917, 1919, 1921, 1923, 1925, 1927, 1929, 1931, 1933, 1935, 1937, 1939, 1941, 1943, 1945, 1947, 1949] rfl (by decide +kernel)
theorem il_X12 : ∀ w ∈ wsX120, w ∈ lw_tbl := fun w h => (gl_X12 w h).1
theorem gl_J0 : GoodIn lw_tbl wsJ00 := by
  intro w hw
  unfold wsJ00 at hw
  exact goodIn_r (u_ws RJ0 TJ0 0) [] (by decide +kernel) (by decide +kernel) w hw
theorem gt_ALW : GoodIn lw_tbl ALW := goodIn_app gw_0 (goodIn_app gw_1 (goodIn_app gw_2 (goodIn_app gw_3 (goodIn_app gw_4 (goodIn_app gw_5 (goodIn_app gw_6 (goodIn_app gw_7 (goodIn_app gw_8 (goodIn_app gw_9 (goodIn_app gw_10 (goodIn_app gw_11 (goodIn_app gw_12 (goodIn_app gw_13 (goodIn_app gw_14 (goodIn_app gw_15 (goodIn_app gw_16 (goodIn_app gw_17 (goodIn_app gw_18 (goodIn_app gw_19 (goodIn_app gw_20 (goodIn_app gw_21 (goodIn_app gw_22 (goodIn_app gw_23 (goodIn_app gw_24 (goodIn_app gw_25 (goodIn_app gw_26 (goodIn_app gw_27 (goodIn_app gw_28 (goodIn_app gw_29 (goodIn_app gw_30 (goodIn_app gw_31 (goodIn_app gl_X0 (goodIn_app gl_X1 (goodIn_app gl_X2 (goodIn_app gl_X3 (goodIn_app gl_X4 (goodIn_app gl_X5 (goodIn_app gl_X6 (goodIn_app gl_X7 (goodIn_app gl_X8 (goodIn_app gl_X9 (goodIn_app gl_X10 (goodIn_app gl_X11 (goodIn_app gl_X12 (gl_J0)))))))))))))))))))))))))))))))))))))))))))))
