"""Writes codes with all their answers, for GoldenTest:

python3 answers.py SEED HOW_MANY > answers.txt       random codes
python3 answers.py FILE > answers.txt                a code a line
python3 answers.py codes SEED HOW_MANY > codes.txt   the codes alone, such as are right, for SoundTest"""
import random
import sys
from oracle import POP, PUSH, Obj


def small_blocks(rng):
    n = rng.choice([rng.randint(6, 14), rng.randint(14, 40), 40])
    base = rng.choice([0, 0, 0, 1, 2, 3])
    ins = []
    deps = []
    dep = 0
    wr = rng.choice([0.0, 0.02, 0.05])
    while len(ins) < n - 1:
        deps.append(dep)
        if dep < base:
            ins.append(rng.choice([('k', rng.randint(0, 3)), ('l', rng.randint(0, 5)), ('i', 0)]))
            dep += 1
            continue
        r = rng.random()
        if dep > base:
            if r < 0.55:
                ins.append(('z', None))
                dep -= 1
            elif r < 0.65:
                ins.append(('s', rng.randint(0, 5)))
                dep -= 1
            elif r < 0.7:
                ins.append(('o', 0))
                dep -= 1
            elif r < 0.75:
                ins.append(('p', 0))
                dep -= 1
            elif r < 0.8 and dep >= 2:
                ins.append((rng.choice('/%+-<='), 0))
                dep -= 1
            elif r < 0.85:
                ins.append(('!', 0))
            elif r < 0.9 and dep >= 2:
                ins.append(('w', 0))
            elif r < 0.94 and dep < 6:
                ins.append(('d', 0))
                dep += 1
            elif r < 0.94 + wr:
                ins.append((rng.choice('tr'), 0))
                dep = base
            else:
                ins.append(('z', None))
                dep -= 1
        elif r < 0.12:
            ins.append(('g', None))
        elif r < 0.12 + wr:
            ins.append((rng.choice('r'), 0))
        elif r < 0.2 and dep >= 2:
            ins.append((rng.choice('/%+-w'), 0))
            dep -= ins[-1][0] != 'w'
        elif r < 0.25 and dep >= 1:
            ins.append(('n', 0))
        else:
            ins.append(rng.choice([('k', rng.randint(0, 3)), ('l', rng.randint(0, 5)), ('l', rng.randint(0, 5)), ('i', 0)]))
            dep += 1
    deps.append(dep)
    ins.append(rng.choice([('r', 0), ('g', None)]))
    local = rng.random()
    out = []
    for i, (c, v) in enumerate(ins):
        if v is None:
            want = deps[i] - POP[c]
            ok = [j for j in range(n) if deps[j] == want] or [0]
            near = [j for j in ok if abs(j - i) < 7]
            v = rng.choice(near if near and rng.random() < local else ok)
        out.append((c, v))
    hs = []
    for _ in range(rng.choice([0, 0, 1, 2, 3])):
        f = rng.randint(0, n - 1)
        t = rng.randint(f + 1, n)
        ok = [j for j in range(n) if deps[j] == 1]
        if ok:
            hs.append((f, t, rng.choice(ok)))
    s = ''
    for c, v in out:
        s += c
        if c in 'kgz':
            s += str(v)
        if c in 'ls':
            s += 'abcdef'[v]
    for h in hs:
        s += 'h%d,%d,%d' % h
    return s


def full_stacks(rng):
    n = rng.choice([12, 25, 40])
    dep = 0
    ins = []
    deps = []
    for i in range(n - 1):
        deps.append(dep)
        for _ in range(300):
            c = rng.choice('iiiilldddwwwwsssoop/%%+-!nzzgk')
            if dep < POP[c] or dep - POP[c] + PUSH[c] > 6:
                continue
            if dep < 4 and PUSH[c] < POP[c] and (rng.random() < 0.6):
                continue
            break
        v = None if c in 'zg' else 0
        if c in 'ls':
            v = rng.randint(0, 2)
        if c == 'k':
            v = rng.choice([0, 1, 2])
        ins.append((c, v))
        dep = dep - POP[c] + PUSH[c]
    deps.append(dep)
    ins.append((rng.choice('rg'), None if ins and 0 else 0))
    if ins[-1][0] == 'g':
        ins[-1] = ('g', None)
    s = ''
    for i, (c, v) in enumerate(ins):
        if v is None:
            want = deps[i] - POP[c]
            ok = [j for j in range(n) if deps[j] == want] or [0]
            if i + 1 < n and c == 'g':
                ok = [j for j in ok if abs(j - i) < 4] or ok
            if rng.random() < 0.3 and i + 1 < n:
                ok = [i + 1]
            v = rng.choice(ok)
        s += c
        if c in 'kgz':
            s += str(v)
        if c in 'ls':
            s += 'abcdef'[v]
    for _ in range(rng.choice([0, 0, 1, 2])):
        f = rng.randint(0, n - 1)
        t = rng.randint(f + 1, n)
        ok = [j for j in range(n) if deps[j] == 1]
        if ok:
            s += 'h%d,%d,%d' % (f, t, rng.choice(ok))
    return s


def gen(rng):
    mode = rng.random()
    if mode < 0.3:
        return small_blocks(rng)
    if mode < 0.5:
        return full_stacks(rng)
    mode = (mode - 0.5) * 2
    n = rng.choice([rng.randint(1, 8), rng.randint(5, 20), rng.randint(15, 40), 40])
    dep = 0
    ins = []
    deps = []
    if mode < 0.35:
        w = dict(k=3, l=4, s=4, i=2, o=3, p=1, d=2, w=2, g=2, z=4, t=0.5, r=0.4, b=6, u=2)
    elif mode < 0.7:
        w = dict(k=1, l=3, s=1, i=0.7, o=0.7, p=0.5, d=0.7, w=0.5, g=3, z=6, t=0.5, r=0.4, b=1, u=0.5)
    else:
        w = dict(k=3, l=4, s=3, i=3, o=1, p=1, d=4, w=4, g=1, z=1.5, t=0.3, r=0.2, b=7, u=2)
    names = list(w)
    free = True
    for i in range(n):
        deps.append(dep)
        for _ in range(200):
            c = rng.choices(names, [w[x] for x in names])[0]
            if c == 'b':
                c = rng.choice('+-*/%<=/%')
            if c == 'u':
                c = rng.choice('!n')
            if i == n - 1 and c not in 'gtr':
                c = rng.choice('gtrr')
            if dep < POP[c]:
                continue
            if dep - POP[c] + PUSH[c] > 6:
                continue
            if rng.random() < 0.5 and dep >= 3 and (PUSH[c] > POP[c]):
                continue
            break
        else:
            c = 'r'
        dep = dep - POP[c] + PUSH[c]
        v = 0
        if c == 'k':
            v = rng.choice([0, 1, 1, 2, 3, rng.randint(0, 999)])
        if c in 'ls':
            v = rng.choice([0, 0, 1, 1, 2, 2, 3, 4, 5])
        ins.append([c, v])
        if c in 'gtr':
            dep = rng.choice([dep, dep, rng.choice(deps), rng.randint(0, 2)])
    for i, (c, v) in enumerate(ins):
        if c in 'gz':
            want = deps[i] - POP[c]
            ok = [j for j in range(n) if deps[j] == want]
            if rng.random() < 0.02 or not ok:
                ok = list(range(min(n, 40)))
            near = [j for j in ok if abs(j - i) < 6]
            ins[i][1] = rng.choice(near if near and rng.random() < 0.4 else ok)
    hs = []
    nh = rng.choice([0, 0, 0, 1, 1, 2, 3])
    for _ in range(nh):
        f = rng.randint(0, n - 1)
        t = rng.randint(f + 1, n)
        if rng.random() < 0.4:
            f = 0 if rng.random() < 0.5 else f
            t = n if rng.random() < 0.5 else t
        ok = [j for j in range(n) if deps[j] == 1]
        if not ok:
            break
        hs.append((f, t, rng.choice(ok)))
    s = ''
    sp = rng.random() < 0.1
    for c, v in ins:
        s += c
        if sp and rng.random() < 0.3:
            s += ' '
        if c in 'kgz':
            s += str(v)
        if c in 'ls':
            s += 'abcdef'[v]
    for h in hs:
        s += 'h%d,%d,%d' % h
    return s


def tell(told, command, due):
    told.append('> ' + command)
    told.extend(due)


def ask(told, rng, known):
    tell(told, 'Q', known.dump())
    for _ in range(3):
        a = rng.choice([0, 1, 2, -1, 5, 2147483647, -2147483648])
        b = rng.choice([0, 1, 2, -1, 7, -2147483648])
        seed = rng.randint(-2 ** 31, 2 ** 31 - 1)
        limit = rng.choice([0, 1, 2, 3, 5, 10, 50, 200, 200, 201])
        for how in (0, 1, rng.choice([0, 1, 2, -1])):
            due = known.run(how, a, b, seed, limit)
            tell(told, 'R %d %d %d %d %d' % (how, a, b, seed, limit), [due])


def change(told, rng, known):
    for _ in range(4):
        i = rng.randint(-1, len(known.C.ins))
        sign = rng.choice(b'klsgzp+/ri!dwoth')
        number = rng.choice([0, 0, 0, 1])
        if chr(sign) in 'klsgz':
            number = rng.choice([0, 0, 1, 5, rng.randint(-1, 40), 1000])
        tell(told, 'P %d %d %d' % (i, sign, number), ['put %d' % known.put(i, sign, number)])


def of_texts(told, rng, texts):
    for text in texts:
        known = Obj()
        tell(told, 'N', [])
        signs = [ord(c) for c in text]
        due = known.text(signs)
        tell(told, 'T ' + ' '.join(map(str, signs)), due)
        ask(told, rng, known)


def at_random(told, rng, how_many):
    for _ in range(how_many):
        known = Obj()
        tell(told, 'N', [])
        for _ in range(rng.randint(1, 3)):
            text = gen(rng)
            if rng.random() < 0.05:
                k = rng.randint(0, len(text) - 1)
                text = text[:k] + rng.choice('khls0,9 xr') + text[k + rng.randint(0, 1):]
            signs = [ord(c) for c in text][:240]
            due = known.text(signs)
            tell(told, 'T ' + ' '.join(map(str, signs)), due)
            ask(told, rng, known)
            if known.C:
                change(told, rng, known)
                ask(told, rng, known)


def codes(told, rng, how_many):
    while len(told) < how_many:
        text = gen(rng)
        known = Obj()
        known.text([ord(c) for c in text][:240])
        if known.C and len(known.C.ins) > 5:
            told.append(text)


def main():
    told = []
    if len(sys.argv) > 3:
        codes(told, random.Random(int(sys.argv[2])), int(sys.argv[3]))
    elif len(sys.argv) > 2:
        at_random(told, random.Random(int(sys.argv[1])), int(sys.argv[2]))
    else:
        with open(sys.argv[1]) as texts:
            of_texts(told, random.Random(1), texts.read().split('\n')[:-1])
    print('\n'.join(told))


main()
