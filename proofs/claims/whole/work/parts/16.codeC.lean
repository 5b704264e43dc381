def kL_give : List aR := [(0, .aload_n 3, 1, 0, 0, 0), (1, .iconst 0, 1, 0, 0, 0), (2, .aload_n 0, 1, 0, 0, 0), (3, .iload_n 1, 1, 0, 0, 0), (4, .iload_n 2, 1, 0, 0, 0), (5, .invokevirtual 7, 3, 0, 0, 0), (8, .i2l, 1, 0, 0, 0), (9, .lastore, 1, 0, 0, 0), (10, .goto 11, 3, 0, 21, 0), (13, .astore 4, 2, 0, 0, 0), (15, .iconst 1, 1, 1, 0, 0), (16, .ireturn, 1, 0, 0, 0), (17, .astore 4, 2, 0, 0, 0), (19, .iconst 2, 1, 2, 0, 0), (20, .ireturn, 1, 0, 0, 0), (21, .iconst 0, 1, 0, 0, 0), (22, .ireturn, 1, 0, 0, 0)]
def mL_give : aM := (yL_give, cL_give, 5, (some .int), [(0, 10, 13, 13), (0, 10, 17, 15)], kL_give)
set_option maxRecDepth 100000 in
theorem oL_give : cB mL_give mL_give.code = true := by decide +kernel
def kL_of : List aR := [(0, .aload 4, 2, 0, 0, 0), (2, .iconst 0, 1, 0, 0, 0), (3, .aload_n 0, 1, 0, 0, 0), (4, .iload_n 1, 1, 0, 0, 0), (5, .iload_n 2, 1, 0, 0, 0), (6, .iload_n 3, 1, 0, 0, 0), (7, .invokevirtual 17, 3, 0, 0, 0), (10, .i2l, 1, 0, 0, 0), (11, .lastore, 1, 0, 0, 0), (12, .goto 15, 3, 0, 27, 0), (15, .astore 5, 2, 0, 0, 0), (17, .iconst 1, 1, 1, 0, 0), (18, .ireturn, 1, 0, 0, 0), (19, .astore 5, 2, 0, 0, 0), (21, .iconst 2, 1, 2, 0, 0), (22, .ireturn, 1, 0, 0, 0), (23, .astore 5, 2, 0, 0, 0), (25, .iconst 3, 1, 3, 0, 0), (26, .ireturn, 1, 0, 0, 0), (27, .iconst 0, 1, 0, 0, 0), (28, .ireturn, 1, 0, 0, 0)]
def mL_of : aM := (yL_of, cL_of, 6, (some .int), [(0, 12, 15, 13), (0, 12, 19, 21), (0, 12, 23, 15)], kL_of)
set_option maxRecDepth 100000 in
theorem oL_of : cB mL_of mL_of.code = true := by decide +kernel
def kL_read : List aR := [(0, .aload_n 1, 1, 0, 0, 0), (1, .iconst 0, 1, 0, 0, 0), (2, .aload_n 0, 1, 0, 0, 0), (3, .invokevirtual 23, 3, 0, 0, 0), (6, .i2l, 1, 0, 0, 0), (7, .lastore, 1, 0, 0, 0), (8, .goto 6, 3, 0, 14, 0), (11, .astore_n 2, 1, 0, 0, 0), (12, .iconst 1, 1, 1, 0, 0), (13, .ireturn, 1, 0, 0, 0), (14, .iconst 0, 1, 0, 0, 0), (15, .ireturn, 1, 0, 0, 0)]
def mL_read : aM := (yL_read, cL_read, 3, (some .int), [(0, 8, 11, 15)], kL_read)
set_option maxRecDepth 100000 in
theorem oL_read : cB mL_read mL_read.code = true := by decide +kernel
def kL_write : List aR := [(0, .aload_n 3, 1, 0, 0, 0), (1, .iconst 0, 1, 0, 0, 0), (2, .aload_n 0, 1, 0, 0, 0), (3, .iload_n 1, 1, 0, 0, 0), (4, .iload_n 2, 1, 0, 0, 0), (5, .invokevirtual 27, 3, 0, 0, 0), (8, .i2l, 1, 0, 0, 0), (9, .lastore, 1, 0, 0, 0), (10, .goto 11, 3, 0, 21, 0), (13, .astore 4, 2, 0, 0, 0), (15, .iconst 1, 1, 1, 0, 0), (16, .ireturn, 1, 0, 0, 0), (17, .astore 4, 2, 0, 0, 0), (19, .iconst 2, 1, 2, 0, 0), (20, .ireturn, 1, 0, 0, 0), (21, .iconst 0, 1, 0, 0, 0), (22, .ireturn, 1, 0, 0, 0)]
def mL_write : aM := (yL_write, cL_write, 5, (some .int), [(0, 10, 13, 13), (0, 10, 17, 15)], kL_write)
set_option maxRecDepth 100000 in
theorem oL_write : cB mL_write mL_write.code = true := by decide +kernel
def kL_say : List aR := [(0, .aload_n 3, 1, 0, 0, 0), (1, .iconst 0, 1, 0, 0, 0), (2, .aload_n 0, 1, 0, 0, 0), (3, .iload_n 1, 1, 0, 0, 0), (4, .iload_n 2, 1, 0, 0, 0), (5, .invokevirtual 30, 3, 0, 0, 0), (8, .i2l, 1, 0, 0, 0), (9, .lastore, 1, 0, 0, 0), (10, .goto 11, 3, 0, 21, 0), (13, .astore 4, 2, 0, 0, 0), (15, .iconst 1, 1, 1, 0, 0), (16, .ireturn, 1, 0, 0, 0), (17, .astore 4, 2, 0, 0, 0), (19, .iconst 2, 1, 2, 0, 0), (20, .ireturn, 1, 0, 0, 0), (21, .iconst 0, 1, 0, 0, 0), (22, .ireturn, 1, 0, 0, 0)]
def mL_say : aM := (yL_say, cL_say, 5, (some .int), [(0, 10, 13, 13), (0, 10, 17, 15)], kL_say)
set_option maxRecDepth 100000 in
theorem oL_say : cB mL_say mL_say.code = true := by decide +kernel
def kL_fail : List aR := [(0, .aload_n 3, 1, 0, 0, 0), (1, .iconst 0, 1, 0, 0, 0), (2, .aload_n 0, 1, 0, 0, 0), (3, .iload_n 1, 1, 0, 0, 0), (4, .iload_n 2, 1, 0, 0, 0), (5, .invokevirtual 33, 3, 0, 0, 0), (8, .i2l, 1, 0, 0, 0), (9, .lastore, 1, 0, 0, 0), (10, .goto 11, 3, 0, 21, 0), (13, .astore 4, 2, 0, 0, 0), (15, .iconst 1, 1, 1, 0, 0), (16, .ireturn, 1, 0, 0, 0), (17, .astore 4, 2, 0, 0, 0), (19, .iconst 2, 1, 2, 0, 0), (20, .ireturn, 1, 0, 0, 0), (21, .iconst 0, 1, 0, 0, 0), (22, .ireturn, 1, 0, 0, 0)]
def mL_fail : aM := (yL_fail, cL_fail, 5, (some .int), [(0, 10, 13, 13), (0, 10, 17, 15)], kL_fail)
set_option maxRecDepth 100000 in
theorem oL_fail : cB mL_fail mL_fail.code = true := by decide +kernel
def kL_none : List aR := [(0, .aload_n 1, 1, 0, 0, 0), (1, .iconst 0, 1, 0, 0, 0), (2, .aload_n 0, 1, 0, 0, 0), (3, .invokevirtual 36, 3, 0, 0, 0), (6, .i2l, 1, 0, 0, 0), (7, .lastore, 1, 0, 0, 0), (8, .goto 6, 3, 0, 14, 0), (11, .astore_n 2, 1, 0, 0, 0), (12, .iconst 1, 1, 1, 0, 0), (13, .ireturn, 1, 0, 0, 0), (14, .iconst 0, 1, 0, 0, 0), (15, .ireturn, 1, 0, 0, 0)]
def mL_none : aM := (yL_none, cL_none, 3, (some .int), [(0, 8, 11, 15)], kL_none)
set_option maxRecDepth 100000 in
theorem oL_none : cB mL_none mL_none.code = true := by decide +kernel
def kL_either : List aR := [(0, .aload_n 3, 1, 0, 0, 0), (1, .iconst 0, 1, 0, 0, 0), (2, .aload_n 0, 1, 0, 0, 0), (3, .iload_n 1, 1, 0, 0, 0), (4, .iload_n 2, 1, 0, 0, 0), (5, .invokevirtual 39, 3, 0, 0, 0), (8, .i2l, 1, 0, 0, 0), (9, .lastore, 1, 0, 0, 0), (10, .goto 11, 3, 0, 21, 0), (13, .astore 4, 2, 0, 0, 0), (15, .iconst 1, 1, 1, 0, 0), (16, .ireturn, 1, 0, 0, 0), (17, .astore 4, 2, 0, 0, 0), (19, .iconst 2, 1, 2, 0, 0), (20, .ireturn, 1, 0, 0, 0), (21, .iconst 0, 1, 0, 0, 0), (22, .ireturn, 1, 0, 0, 0)]
def mL_either : aM := (yL_either, cL_either, 5, (some .int), [(0, 10, 13, 13), (0, 10, 17, 15)], kL_either)
set_option maxRecDepth 100000 in
theorem oL_either : cB mL_either mL_either.code = true := by decide +kernel
def kL_then : List aR := [(0, .aload 4, 2, 0, 0, 0), (2, .iconst 0, 1, 0, 0, 0), (3, .aload_n 0, 1, 0, 0, 0), (4, .iload_n 1, 1, 0, 0, 0), (5, .iload_n 2, 1, 0, 0, 0), (6, .iload_n 3, 1, 0, 0, 0), (7, .invokevirtual 43, 3, 0, 0, 0), (10, .i2l, 1, 0, 0, 0), (11, .lastore, 1, 0, 0, 0), (12, .goto 11, 3, 0, 23, 0), (15, .astore 5, 2, 0, 0, 0), (17, .iconst 1, 1, 1, 0, 0), (18, .ireturn, 1, 0, 0, 0), (19, .astore 5, 2, 0, 0, 0), (21, .iconst 2, 1, 2, 0, 0), (22, .ireturn, 1, 0, 0, 0), (23, .iconst 0, 1, 0, 0, 0), (24, .ireturn, 1, 0, 0, 0)]
def mL_then : aM := (yL_then, cL_then, 6, (some .int), [(0, 12, 15, 13), (0, 12, 19, 15)], kL_then)
set_option maxRecDepth 100000 in
theorem oL_then : cB mL_then mL_then.code = true := by decide +kernel
def kL_saved : List aR := [(0, .aload 4, 2, 0, 0, 0), (2, .iconst 0, 1, 0, 0, 0), (3, .aload_n 0, 1, 0, 0, 0), (4, .iload_n 1, 1, 0, 0, 0), (5, .iload_n 2, 1, 0, 0, 0), (6, .iload_n 3, 1, 0, 0, 0), (7, .invokevirtual 46, 3, 0, 0, 0), (10, .i2l, 1, 0, 0, 0), (11, .lastore, 1, 0, 0, 0), (12, .goto 11, 3, 0, 23, 0), (15, .astore 5, 2, 0, 0, 0), (17, .iconst 1, 1, 1, 0, 0), (18, .ireturn, 1, 0, 0, 0), (19, .astore 5, 2, 0, 0, 0), (21, .iconst 2, 1, 2, 0, 0), (22, .ireturn, 1, 0, 0, 0), (23, .iconst 0, 1, 0, 0, 0), (24, .ireturn, 1, 0, 0, 0)]
def mL_saved : aM := (yL_saved, cL_saved, 6, (some .int), [(0, 12, 15, 13), (0, 12, 19, 15)], kL_saved)
set_option maxRecDepth 100000 in
theorem oL_saved : cB mL_saved mL_saved.code = true := by decide +kernel
def kL_when : List aR := [(0, .aload 4, 2, 0, 0, 0), (2, .iconst 0, 1, 0, 0, 0), (3, .aload_n 0, 1, 0, 0, 0), (4, .iload_n 1, 1, 0, 0, 0), (5, .iload_n 2, 1, 0, 0, 0), (6, .iload_n 3, 1, 0, 0, 0), (7, .invokevirtual 49, 3, 0, 0, 0), (10, .i2l, 1, 0, 0, 0), (11, .lastore, 1, 0, 0, 0), (12, .goto 11, 3, 0, 23, 0), (15, .astore 5, 2, 0, 0, 0), (17, .iconst 1, 1, 1, 0, 0), (18, .ireturn, 1, 0, 0, 0), (19, .astore 5, 2, 0, 0, 0), (21, .iconst 2, 1, 2, 0, 0), (22, .ireturn, 1, 0, 0, 0), (23, .iconst 0, 1, 0, 0, 0), (24, .ireturn, 1, 0, 0, 0)]
def mL_when : aM := (yL_when, cL_when, 6, (some .int), [(0, 12, 15, 13), (0, 12, 19, 15)], kL_when)
set_option maxRecDepth 100000 in
theorem oL_when : cB mL_when mL_when.code = true := by decide +kernel
def kL_times : List aR := [(0, .aload 4, 2, 0, 0, 0), (2, .iconst 0, 1, 0, 0, 0), (3, .aload_n 0, 1, 0, 0, 0), (4, .iload_n 1, 1, 0, 0, 0), (5, .iload_n 2, 1, 0, 0, 0), (6, .iload_n 3, 1, 0, 0, 0), (7, .invokevirtual 52, 3, 0, 0, 0), (10, .i2l, 1, 0, 0, 0), (11, .lastore, 1, 0, 0, 0), (12, .goto 11, 3, 0, 23, 0), (15, .astore 5, 2, 0, 0, 0), (17, .iconst 1, 1, 1, 0, 0), (18, .ireturn, 1, 0, 0, 0), (19, .astore 5, 2, 0, 0, 0), (21, .iconst 2, 1, 2, 0, 0), (22, .ireturn, 1, 0, 0, 0), (23, .iconst 0, 1, 0, 0, 0), (24, .ireturn, 1, 0, 0, 0)]
def mL_times : aM := (yL_times, cL_times, 6, (some .int), [(0, 12, 15, 13), (0, 12, 19, 15)], kL_times)
set_option maxRecDepth 100000 in
theorem oL_times : cB mL_times mL_times.code = true := by decide +kernel
def kL_as : List aR := [(0, .aload_n 3, 1, 0, 0, 0), (1, .iconst 0, 1, 0, 0, 0), (2, .aload_n 0, 1, 0, 0, 0), (3, .iload_n 1, 1, 0, 0, 0), (4, .iload_n 2, 1, 0, 0, 0), (5, .invokevirtual 56, 3, 0, 0, 0), (8, .i2l, 1, 0, 0, 0), (9, .lastore, 1, 0, 0, 0), (10, .goto 15, 3, 0, 25, 0), (13, .astore 4, 2, 0, 0, 0), (15, .iconst 1, 1, 1, 0, 0), (16, .ireturn, 1, 0, 0, 0), (17, .astore 4, 2, 0, 0, 0), (19, .iconst 2, 1, 2, 0, 0), (20, .ireturn, 1, 0, 0, 0), (21, .astore 4, 2, 0, 0, 0), (23, .iconst 3, 1, 3, 0, 0), (24, .ireturn, 1, 0, 0, 0), (25, .iconst 0, 1, 0, 0, 0), (26, .ireturn, 1, 0, 0, 0)]
def mL_as : aM := (yL_as, cL_as, 5, (some .int), [(0, 10, 13, 13), (0, 10, 17, 21), (0, 10, 21, 15)], kL_as)
set_option maxRecDepth 100000 in
theorem oL_as : cB mL_as mL_as.code = true := by decide +kernel
def kL_order : List aR := [(0, .aload 5, 2, 0, 0, 0), (2, .iconst 0, 1, 0, 0, 0), (3, .aload_n 0, 1, 0, 0, 0), (4, .iload_n 1, 1, 0, 0, 0), (5, .iload_n 2, 1, 0, 0, 0), (6, .iload_n 3, 1, 0, 0, 0), (7, .iload 4, 2, 0, 0, 0), (9, .invokevirtual 59, 3, 0, 0, 0), (12, .i2l, 1, 0, 0, 0), (13, .lastore, 1, 0, 0, 0), (14, .goto 7, 3, 0, 21, 0), (17, .astore 6, 2, 0, 0, 0), (19, .iconst 1, 1, 1, 0, 0), (20, .ireturn, 1, 0, 0, 0), (21, .iconst 0, 1, 0, 0, 0), (22, .ireturn, 1, 0, 0, 0)]
def mL_order : aM := (yL_order, cL_order, 7, (some .int), [(0, 14, 17, 21)], kL_order)
set_option maxRecDepth 100000 in
theorem oL_order : cB mL_order mL_order.code = true := by decide +kernel
def kL_needs : List aR := [(0, .aload_n 2, 1, 0, 0, 0), (1, .iconst 0, 1, 0, 0, 0), (2, .aload_n 0, 1, 0, 0, 0), (3, .iload_n 1, 1, 0, 0, 0), (4, .invokevirtual 63, 3, 0, 0, 0), (7, .i2l, 1, 0, 0, 0), (8, .lastore, 1, 0, 0, 0), (9, .goto 6, 3, 0, 15, 0), (12, .astore_n 3, 1, 0, 0, 0), (13, .iconst 1, 1, 1, 0, 0), (14, .ireturn, 1, 0, 0, 0), (15, .iconst 0, 1, 0, 0, 0), (16, .ireturn, 1, 0, 0, 0)]
def mL_needs : aM := (yL_needs, cL_needs, 4, (some .int), [(0, 9, 12, 13)], kL_needs)
set_option maxRecDepth 100000 in
theorem oL_needs : cB mL_needs mL_needs.code = true := by decide +kernel
def kL_run : List aR := [(0, .aload 4, 2, 0, 0, 0), (2, .iconst 0, 1, 0, 0, 0), (3, .aload_n 0, 1, 0, 0, 0), (4, .iload_n 1, 1, 0, 0, 0), (5, .iload_n 2, 1, 0, 0, 0), (6, .iload_n 3, 1, 0, 0, 0), (7, .invokevirtual 67, 3, 0, 0, 0), (10, .i2l, 1, 0, 0, 0), (11, .lastore, 1, 0, 0, 0), (12, .goto 15, 3, 0, 27, 0), (15, .astore 5, 2, 0, 0, 0), (17, .iconst 1, 1, 1, 0, 0), (18, .ireturn, 1, 0, 0, 0), (19, .astore 5, 2, 0, 0, 0), (21, .iconst 2, 1, 2, 0, 0), (22, .ireturn, 1, 0, 0, 0), (23, .astore 5, 2, 0, 0, 0), (25, .iconst 3, 1, 3, 0, 0), (26, .ireturn, 1, 0, 0, 0), (27, .iconst 0, 1, 0, 0, 0), (28, .ireturn, 1, 0, 0, 0)]
def mL_run : aM := (yL_run, cL_run, 6, (some .int), [(0, 12, 15, 13), (0, 12, 19, 21), (0, 12, 23, 70)], kL_run)
set_option maxRecDepth 100000 in
theorem oL_run : cB mL_run mL_run.code = true := by decide +kernel
def kL_result : List aR := [(0, .aload_n 3, 1, 0, 0, 0), (1, .iconst 0, 1, 0, 0, 0), (2, .aload_n 0, 1, 0, 0, 0), (3, .iload_n 1, 1, 0, 0, 0), (4, .iload_n 2, 1, 0, 0, 0), (5, .invokevirtual 72, 3, 0, 0, 0), (8, .i2l, 1, 0, 0, 0), (9, .lastore, 1, 0, 0, 0), (10, .goto 11, 3, 0, 21, 0), (13, .astore 4, 2, 0, 0, 0), (15, .iconst 1, 1, 1, 0, 0), (16, .ireturn, 1, 0, 0, 0), (17, .astore 4, 2, 0, 0, 0), (19, .iconst 2, 1, 2, 0, 0), (20, .ireturn, 1, 0, 0, 0), (21, .iconst 0, 1, 0, 0, 0), (22, .ireturn, 1, 0, 0, 0)]
def mL_result : aM := (yL_result, cL_result, 5, (some .int), [(0, 10, 13, 13), (0, 10, 17, 21)], kL_result)
set_option maxRecDepth 100000 in
theorem oL_result : cB mL_result mL_result.code = true := by decide +kernel
def kL_shared : List aR := [(0, .aload_n 2, 1, 0, 0, 0), (1, .iconst 0, 1, 0, 0, 0), (2, .aload_n 0, 1, 0, 0, 0), (3, .iload_n 1, 1, 0, 0, 0), (4, .invokevirtual 75, 3, 0, 0, 0), (7, .i2l, 1, 0, 0, 0), (8, .lastore, 1, 0, 0, 0), (9, .goto 9, 3, 0, 18, 0), (12, .astore_n 3, 1, 0, 0, 0), (13, .iconst 1, 1, 1, 0, 0), (14, .ireturn, 1, 0, 0, 0), (15, .astore_n 3, 1, 0, 0, 0), (16, .iconst 2, 1, 2, 0, 0), (17, .ireturn, 1, 0, 0, 0), (18, .iconst 0, 1, 0, 0, 0), (19, .ireturn, 1, 0, 0, 0)]
def mL_shared : aM := (yL_shared, cL_shared, 4, (some .int), [(0, 9, 12, 70), (0, 9, 15, 21)], kL_shared)
set_option maxRecDepth 100000 in
theorem oL_shared : cB mL_shared mL_shared.code = true := by decide +kernel
def kL_alike : List aR := [(0, .aload 5, 2, 0, 0, 0), (2, .iconst 0, 1, 0, 0, 0), (3, .aload_n 0, 1, 0, 0, 0), (4, .iload_n 1, 1, 0, 0, 0), (5, .iload_n 2, 1, 0, 0, 0), (6, .iload_n 3, 1, 0, 0, 0), (7, .iload 4, 2, 0, 0, 0), (9, .invokevirtual 78, 3, 0, 0, 0), (12, .ifCond .eq 7, 3, 0, 19, 0), (15, .lconst 1, 1, 1, 0, 0), (16, .goto 4, 3, 0, 20, 0), (19, .lconst 0, 1, 0, 0, 0), (20, .lastore, 1, 0, 0, 0), (21, .goto 15, 3, 0, 36, 0), (24, .astore 6, 2, 0, 0, 0), (26, .iconst 1, 1, 1, 0, 0), (27, .ireturn, 1, 0, 0, 0), (28, .astore 6, 2, 0, 0, 0), (30, .iconst 2, 1, 2, 0, 0), (31, .ireturn, 1, 0, 0, 0), (32, .astore 6, 2, 0, 0, 0), (34, .iconst 3, 1, 3, 0, 0), (35, .ireturn, 1, 0, 0, 0), (36, .iconst 0, 1, 0, 0, 0), (37, .ireturn, 1, 0, 0, 0)]
def mL_alike : aM := (yL_alike, cL_alike, 7, (some .int), [(0, 21, 24, 13), (0, 21, 28, 21), (0, 21, 32, 70)], kL_alike)
set_option maxRecDepth 100000 in
theorem oL_alike : cB mL_alike mL_alike.code = true := by decide +kernel
